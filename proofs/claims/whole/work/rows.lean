section
/-- a private method of a class that the tables say can be made, by its rows of tables_1 -/
def lw_okq (q : MethodName × Nat) : Prop := (q.1.cls ≠ "java/lang/invoke/MethodHandle" ∧ q.1.cls ≠ "java/lang/invoke/VarHandle") ∧ Cond.instantiable q.1.cls q.2 ∈ tables_1 ∧ Cond.privateMethod q.1 ∈ tables_1 ∧ Cond.instanceMethod q.1 ∈ tables_1
theorem lw_p0 : lw_okq (⟨"SlidesOverSlides", "refused", "(I)I"⟩, 10) := ⟨⟨by decide +kernel, by decide +kernel⟩, List.mem_of_getElem? (i := 11) (by decide +kernel), List.mem_of_getElem? (i := 178) (by decide +kernel), List.mem_of_getElem? (i := 179) (by decide +kernel)⟩
theorem lw_p1 : lw_okq (⟨"SlidesOverSlides$Letters", "statementComes", "(LSlidesOverSlides$Lantern;II)Z"⟩, 2) := ⟨⟨by decide +kernel, by decide +kernel⟩, List.mem_of_getElem? (i := 62) (by decide +kernel), List.mem_of_getElem? (i := 212) (by decide +kernel), List.mem_of_getElem? (i := 213) (by decide +kernel)⟩
theorem lw_p2 : lw_okq (⟨"SlidesOverSlides$Letters", "signAt", "(I)I"⟩, 2) := ⟨⟨by decide +kernel, by decide +kernel⟩, List.mem_of_getElem? (i := 62) (by decide +kernel), List.mem_of_getElem? (i := 216) (by decide +kernel), List.mem_of_getElem? (i := 217) (by decide +kernel)⟩
theorem lw_p3 : lw_okq (⟨"SlidesOverSlides$Letters", "number", "(II)I"⟩, 2) := ⟨⟨by decide +kernel, by decide +kernel⟩, List.mem_of_getElem? (i := 62) (by decide +kernel), List.mem_of_getElem? (i := 220) (by decide +kernel), List.mem_of_getElem? (i := 221) (by decide +kernel)⟩
theorem lw_p4 : lw_okq (⟨"SlidesOverSlides$Letters", "digit", "(I)I"⟩, 2) := ⟨⟨by decide +kernel, by decide +kernel⟩, List.mem_of_getElem? (i := 62) (by decide +kernel), List.mem_of_getElem? (i := 224) (by decide +kernel), List.mem_of_getElem? (i := 225) (by decide +kernel)⟩
theorem lw_p5 : lw_okq (⟨"SlidesOverSlides$Letters", "pictureBefore", "(I)I"⟩, 2) := ⟨⟨by decide +kernel, by decide +kernel⟩, List.mem_of_getElem? (i := 62) (by decide +kernel), List.mem_of_getElem? (i := 228) (by decide +kernel), List.mem_of_getElem? (i := 229) (by decide +kernel)⟩
theorem lw_p6 : lw_okq (⟨"SlidesOverSlides", "wrongSlide", "(I)I"⟩, 10) := ⟨⟨by decide +kernel, by decide +kernel⟩, List.mem_of_getElem? (i := 11) (by decide +kernel), List.mem_of_getElem? (i := 252) (by decide +kernel), List.mem_of_getElem? (i := 253) (by decide +kernel)⟩
theorem lw_p7 : lw_okq (⟨"SlidesOverSlides$Lantern", "cracked", "(I)I"⟩, 9) := ⟨⟨by decide +kernel, by decide +kernel⟩, List.mem_of_getElem? (i := 19) (by decide +kernel), List.mem_of_getElem? (i := 286) (by decide +kernel), List.mem_of_getElem? (i := 287) (by decide +kernel)⟩
theorem lw_p8 : lw_okq (⟨"SlidesOverSlides", "wrongSet", "(I)I"⟩, 10) := ⟨⟨by decide +kernel, by decide +kernel⟩, List.mem_of_getElem? (i := 11) (by decide +kernel), List.mem_of_getElem? (i := 324) (by decide +kernel), List.mem_of_getElem? (i := 325) (by decide +kernel)⟩
theorem lw_p9 : lw_okq (⟨"SlidesOverSlides$Lantern", "wear", "(I)V"⟩, 9) := ⟨⟨by decide +kernel, by decide +kernel⟩, List.mem_of_getElem? (i := 19) (by decide +kernel), List.mem_of_getElem? (i := 356) (by decide +kernel), List.mem_of_getElem? (i := 357) (by decide +kernel)⟩
theorem lw_p10 : lw_okq (⟨"SlidesOverSlides$Search", "load", "(LSlidesOverSlides$Lantern;III)V"⟩, 11) := ⟨⟨by decide +kernel, by decide +kernel⟩, List.mem_of_getElem? (i := 76) (by decide +kernel), List.mem_of_getElem? (i := 394) (by decide +kernel), List.mem_of_getElem? (i := 395) (by decide +kernel)⟩
theorem lw_p11 : lw_okq (⟨"SlidesOverSlides$Search", "seekFewest", "(IIII)V"⟩, 11) := ⟨⟨by decide +kernel, by decide +kernel⟩, List.mem_of_getElem? (i := 76) (by decide +kernel), List.mem_of_getElem? (i := 407) (by decide +kernel), List.mem_of_getElem? (i := 408) (by decide +kernel)⟩
theorem lw_p12 : lw_okq (⟨"SlidesOverSlides$Search", "isOutOfReach", "(II)Z"⟩, 11) := ⟨⟨by decide +kernel, by decide +kernel⟩, List.mem_of_getElem? (i := 76) (by decide +kernel), List.mem_of_getElem? (i := 411) (by decide +kernel), List.mem_of_getElem? (i := 412) (by decide +kernel)⟩
theorem lw_p13 : lw_okq (⟨"SlidesOverSlides$Search", "noteFewest", "(II)V"⟩, 11) := ⟨⟨by decide +kernel, by decide +kernel⟩, List.mem_of_getElem? (i := 76) (by decide +kernel), List.mem_of_getElem? (i := 416) (by decide +kernel), List.mem_of_getElem? (i := 417) (by decide +kernel)⟩
theorem lw_p14 : lw_okq (⟨"SlidesOverSlides$Search", "seekCheapest", "(III)V"⟩, 11) := ⟨⟨by decide +kernel, by decide +kernel⟩, List.mem_of_getElem? (i := 76) (by decide +kernel), List.mem_of_getElem? (i := 428) (by decide +kernel), List.mem_of_getElem? (i := 429) (by decide +kernel)⟩
theorem lw_p15 : lw_okq (⟨"SlidesOverSlides$Search", "seekNear", "(II)V"⟩, 11) := ⟨⟨by decide +kernel, by decide +kernel⟩, List.mem_of_getElem? (i := 76) (by decide +kernel), List.mem_of_getElem? (i := 441) (by decide +kernel), List.mem_of_getElem? (i := 442) (by decide +kernel)⟩
def lw_privs_1 : List (MethodName × Nat) := [(⟨"SlidesOverSlides", "refused", "(I)I"⟩, 10), (⟨"SlidesOverSlides$Letters", "statementComes", "(LSlidesOverSlides$Lantern;II)Z"⟩, 2), (⟨"SlidesOverSlides$Letters", "signAt", "(I)I"⟩, 2), (⟨"SlidesOverSlides$Letters", "number", "(II)I"⟩, 2), (⟨"SlidesOverSlides$Letters", "digit", "(I)I"⟩, 2), (⟨"SlidesOverSlides$Letters", "pictureBefore", "(I)I"⟩, 2), (⟨"SlidesOverSlides", "wrongSlide", "(I)I"⟩, 10), (⟨"SlidesOverSlides$Lantern", "cracked", "(I)I"⟩, 9), (⟨"SlidesOverSlides", "wrongSet", "(I)I"⟩, 10), (⟨"SlidesOverSlides$Lantern", "wear", "(I)V"⟩, 9), (⟨"SlidesOverSlides$Search", "load", "(LSlidesOverSlides$Lantern;III)V"⟩, 11), (⟨"SlidesOverSlides$Search", "seekFewest", "(IIII)V"⟩, 11), (⟨"SlidesOverSlides$Search", "isOutOfReach", "(II)Z"⟩, 11), (⟨"SlidesOverSlides$Search", "noteFewest", "(II)V"⟩, 11), (⟨"SlidesOverSlides$Search", "seekCheapest", "(III)V"⟩, 11), (⟨"SlidesOverSlides$Search", "seekNear", "(II)V"⟩, 11)]
theorem lw_r1 : ∀ q ∈ lw_privs_1, lw_okq q := List.forall_mem_cons.mpr ⟨lw_p0, List.forall_mem_cons.mpr ⟨lw_p1, List.forall_mem_cons.mpr ⟨lw_p2, List.forall_mem_cons.mpr ⟨lw_p3, List.forall_mem_cons.mpr ⟨lw_p4, List.forall_mem_cons.mpr ⟨lw_p5, List.forall_mem_cons.mpr ⟨lw_p6, List.forall_mem_cons.mpr ⟨lw_p7, List.forall_mem_cons.mpr ⟨lw_p8, List.forall_mem_cons.mpr ⟨lw_p9, List.forall_mem_cons.mpr ⟨lw_p10, List.forall_mem_cons.mpr ⟨lw_p11, List.forall_mem_cons.mpr ⟨lw_p12, List.forall_mem_cons.mpr ⟨lw_p13, List.forall_mem_cons.mpr ⟨lw_p14, List.forall_mem_cons.mpr ⟨lw_p15, fun _ h => absurd h List.not_mem_nil⟩⟩⟩⟩⟩⟩⟩⟩⟩⟩⟩⟩⟩⟩⟩⟩
theorem lw_p16 : lw_okq (⟨"SlidesOverSlides$Search", "isShown", "(II)Z"⟩, 11) := ⟨⟨by decide +kernel, by decide +kernel⟩, List.mem_of_getElem? (i := 76) (by decide +kernel), List.mem_of_getElem? (i := 454) (by decide +kernel), List.mem_of_getElem? (i := 455) (by decide +kernel)⟩
theorem lw_p17 : lw_okq (⟨"SlidesOverSlides$Tour", "layAll", "(LSlidesOverSlides$Lantern;I)V"⟩, 3) := ⟨⟨by decide +kernel, by decide +kernel⟩, List.mem_of_getElem? (i := 120) (by decide +kernel), List.mem_of_getElem? (i := 491) (by decide +kernel), List.mem_of_getElem? (i := 492) (by decide +kernel)⟩
theorem lw_p18 : lw_okq (⟨"SlidesOverSlides$Tour", "findStops", "(LSlidesOverSlides$Lantern;I)I"⟩, 3) := ⟨⟨by decide +kernel, by decide +kernel⟩, List.mem_of_getElem? (i := 120) (by decide +kernel), List.mem_of_getElem? (i := 496) (by decide +kernel), List.mem_of_getElem? (i := 497) (by decide +kernel)⟩
theorem lw_p19 : lw_okq (⟨"SlidesOverSlides$Tour", "isShownByOne", "(II)Z"⟩, 3) := ⟨⟨by decide +kernel, by decide +kernel⟩, List.mem_of_getElem? (i := 120) (by decide +kernel), List.mem_of_getElem? (i := 501) (by decide +kernel), List.mem_of_getElem? (i := 502) (by decide +kernel)⟩
theorem lw_p20 : lw_okq (⟨"SlidesOverSlides$Tour", "arrive", "(III)V"⟩, 3) := ⟨⟨by decide +kernel, by decide +kernel⟩, List.mem_of_getElem? (i := 120) (by decide +kernel), List.mem_of_getElem? (i := 506) (by decide +kernel), List.mem_of_getElem? (i := 507) (by decide +kernel)⟩
theorem lw_p21 : lw_okq (⟨"SlidesOverSlides$Tour", "walk", "(II)V"⟩, 3) := ⟨⟨by decide +kernel, by decide +kernel⟩, List.mem_of_getElem? (i := 120) (by decide +kernel), List.mem_of_getElem? (i := 510) (by decide +kernel), List.mem_of_getElem? (i := 511) (by decide +kernel)⟩
theorem lw_p22 : lw_okq (⟨"SlidesOverSlides$Tour", "leastSteps", "(II)I"⟩, 3) := ⟨⟨by decide +kernel, by decide +kernel⟩, List.mem_of_getElem? (i := 120) (by decide +kernel), List.mem_of_getElem? (i := 514) (by decide +kernel), List.mem_of_getElem? (i := 515) (by decide +kernel)⟩
theorem lw_p23 : lw_okq (⟨"SlidesOverSlidesModel", "no", "(I)I"⟩, 32) := ⟨⟨by decide +kernel, by decide +kernel⟩, List.mem_of_getElem? (i := 563) (by decide +kernel), List.mem_of_getElem? (i := 673) (by decide +kernel), List.mem_of_getElem? (i := 674) (by decide +kernel)⟩
theorem lw_p24 : lw_okq (⟨"SlidesOverSlidesModel", "statement", "()Z"⟩, 32) := ⟨⟨by decide +kernel, by decide +kernel⟩, List.mem_of_getElem? (i := 563) (by decide +kernel), List.mem_of_getElem? (i := 681) (by decide +kernel), List.mem_of_getElem? (i := 682) (by decide +kernel)⟩
theorem lw_p25 : lw_okq (⟨"SlidesOverSlidesModel", "next", "()I"⟩, 32) := ⟨⟨by decide +kernel, by decide +kernel⟩, List.mem_of_getElem? (i := 563) (by decide +kernel), List.mem_of_getElem? (i := 685) (by decide +kernel), List.mem_of_getElem? (i := 686) (by decide +kernel)⟩
theorem lw_p26 : lw_okq (⟨"SlidesOverSlidesModel", "readsSlide", "(I)Z"⟩, 32) := ⟨⟨by decide +kernel, by decide +kernel⟩, List.mem_of_getElem? (i := 563) (by decide +kernel), List.mem_of_getElem? (i := 689) (by decide +kernel), List.mem_of_getElem? (i := 690) (by decide +kernel)⟩
theorem lw_p27 : lw_okq (⟨"SlidesOverSlidesModel", "readsNumber", "(II)Z"⟩, 32) := ⟨⟨by decide +kernel, by decide +kernel⟩, List.mem_of_getElem? (i := 563) (by decide +kernel), List.mem_of_getElem? (i := 693) (by decide +kernel), List.mem_of_getElem? (i := 694) (by decide +kernel)⟩
theorem lw_p28 : lw_okq (⟨"SlidesOverSlidesModel", "readsPicture", "(I)Z"⟩, 32) := ⟨⟨by decide +kernel, by decide +kernel⟩, List.mem_of_getElem? (i := 563) (by decide +kernel), List.mem_of_getElem? (i := 700) (by decide +kernel), List.mem_of_getElem? (i := 701) (by decide +kernel)⟩
theorem lw_p29 : lw_okq (⟨"SlidesOverSlidesModel", "passesAll", "(IZ)V"⟩, 32) := ⟨⟨by decide +kernel, by decide +kernel⟩, List.mem_of_getElem? (i := 563) (by decide +kernel), List.mem_of_getElem? (i := 704) (by decide +kernel), List.mem_of_getElem? (i := 705) (by decide +kernel)⟩
theorem lw_p30 : lw_okq (⟨"SlidesOverSlidesModel", "passes", "([I)V"⟩, 32) := ⟨⟨by decide +kernel, by decide +kernel⟩, List.mem_of_getElem? (i := 563) (by decide +kernel), List.mem_of_getElem? (i := 708) (by decide +kernel), List.mem_of_getElem? (i := 709) (by decide +kernel)⟩
theorem lw_p31 : lw_okq (⟨"SlidesOverSlidesModel", "passOne", "(I)I"⟩, 32) := ⟨⟨by decide +kernel, by decide +kernel⟩, List.mem_of_getElem? (i := 563) (by decide +kernel), List.mem_of_getElem? (i := 712) (by decide +kernel), List.mem_of_getElem? (i := 713) (by decide +kernel)⟩
def lw_privs_2 : List (MethodName × Nat) := [(⟨"SlidesOverSlides$Search", "isShown", "(II)Z"⟩, 11), (⟨"SlidesOverSlides$Tour", "layAll", "(LSlidesOverSlides$Lantern;I)V"⟩, 3), (⟨"SlidesOverSlides$Tour", "findStops", "(LSlidesOverSlides$Lantern;I)I"⟩, 3), (⟨"SlidesOverSlides$Tour", "isShownByOne", "(II)Z"⟩, 3), (⟨"SlidesOverSlides$Tour", "arrive", "(III)V"⟩, 3), (⟨"SlidesOverSlides$Tour", "walk", "(II)V"⟩, 3), (⟨"SlidesOverSlides$Tour", "leastSteps", "(II)I"⟩, 3), (⟨"SlidesOverSlidesModel", "no", "(I)I"⟩, 32), (⟨"SlidesOverSlidesModel", "statement", "()Z"⟩, 32), (⟨"SlidesOverSlidesModel", "next", "()I"⟩, 32), (⟨"SlidesOverSlidesModel", "readsSlide", "(I)Z"⟩, 32), (⟨"SlidesOverSlidesModel", "readsNumber", "(II)Z"⟩, 32), (⟨"SlidesOverSlidesModel", "readsPicture", "(I)Z"⟩, 32), (⟨"SlidesOverSlidesModel", "passesAll", "(IZ)V"⟩, 32), (⟨"SlidesOverSlidesModel", "passes", "([I)V"⟩, 32), (⟨"SlidesOverSlidesModel", "passOne", "(I)I"⟩, 32)]
theorem lw_r2 : ∀ q ∈ lw_privs_2, lw_okq q := List.forall_mem_cons.mpr ⟨lw_p16, List.forall_mem_cons.mpr ⟨lw_p17, List.forall_mem_cons.mpr ⟨lw_p18, List.forall_mem_cons.mpr ⟨lw_p19, List.forall_mem_cons.mpr ⟨lw_p20, List.forall_mem_cons.mpr ⟨lw_p21, List.forall_mem_cons.mpr ⟨lw_p22, List.forall_mem_cons.mpr ⟨lw_p23, List.forall_mem_cons.mpr ⟨lw_p24, List.forall_mem_cons.mpr ⟨lw_p25, List.forall_mem_cons.mpr ⟨lw_p26, List.forall_mem_cons.mpr ⟨lw_p27, List.forall_mem_cons.mpr ⟨lw_p28, List.forall_mem_cons.mpr ⟨lw_p29, List.forall_mem_cons.mpr ⟨lw_p30, List.forall_mem_cons.mpr ⟨lw_p31, fun _ h => absurd h List.not_mem_nil⟩⟩⟩⟩⟩⟩⟩⟩⟩⟩⟩⟩⟩⟩⟩⟩
theorem lw_p32 : lw_okq (⟨"SlidesOverSlidesModel", "comes", "(I)Z"⟩, 32) := ⟨⟨by decide +kernel, by decide +kernel⟩, List.mem_of_getElem? (i := 563) (by decide +kernel), List.mem_of_getElem? (i := 716) (by decide +kernel), List.mem_of_getElem? (i := 717) (by decide +kernel)⟩
theorem lw_p33 : lw_okq (⟨"SlidesOverSlidesModel", "isSlide", "(I)Z"⟩, 32) := ⟨⟨by decide +kernel, by decide +kernel⟩, List.mem_of_getElem? (i := 563) (by decide +kernel), List.mem_of_getElem? (i := 732) (by decide +kernel), List.mem_of_getElem? (i := 733) (by decide +kernel)⟩
theorem lw_p34 : lw_okq (⟨"SlidesOverSlidesModel", "onSlide", "(I)I"⟩, 32) := ⟨⟨by decide +kernel, by decide +kernel⟩, List.mem_of_getElem? (i := 563) (by decide +kernel), List.mem_of_getElem? (i := 736) (by decide +kernel), List.mem_of_getElem? (i := 737) (by decide +kernel)⟩
theorem lw_p35 : lw_okq (⟨"SlidesOverSlidesModel", "areSlides", "(I)Z"⟩, 32) := ⟨⟨by decide +kernel, by decide +kernel⟩, List.mem_of_getElem? (i := 563) (by decide +kernel), List.mem_of_getElem? (i := 766) (by decide +kernel), List.mem_of_getElem? (i := 767) (by decide +kernel)⟩
theorem lw_p36 : lw_okq (⟨"SlidesOverSlidesModel", "laid", "(II)I"⟩, 32) := ⟨⟨by decide +kernel, by decide +kernel⟩, List.mem_of_getElem? (i := 563) (by decide +kernel), List.mem_of_getElem? (i := 770) (by decide +kernel), List.mem_of_getElem? (i := 771) (by decide +kernel)⟩
theorem lw_p37 : lw_okq (⟨"SlidesOverSlidesModel", "isShow", "(I)Z"⟩, 32) := ⟨⟨by decide +kernel, by decide +kernel⟩, List.mem_of_getElem? (i := 563) (by decide +kernel), List.mem_of_getElem? (i := 778) (by decide +kernel), List.mem_of_getElem? (i := 779) (by decide +kernel)⟩
theorem lw_p38 : lw_okq (⟨"SlidesOverSlidesModel", "projects", "(I)I"⟩, 32) := ⟨⟨by decide +kernel, by decide +kernel⟩, List.mem_of_getElem? (i := 563) (by decide +kernel), List.mem_of_getElem? (i := 785) (by decide +kernel), List.mem_of_getElem? (i := 786) (by decide +kernel)⟩
theorem lw_p39 : lw_okq (⟨"SlidesOverSlidesModel", "findShown", "(I)V"⟩, 32) := ⟨⟨by decide +kernel, by decide +kernel⟩, List.mem_of_getElem? (i := 563) (by decide +kernel), List.mem_of_getElem? (i := 805) (by decide +kernel), List.mem_of_getElem? (i := 806) (by decide +kernel)⟩
theorem lw_p40 : lw_okq (⟨"SlidesOverSlidesModel", "tellsShown", "(III)V"⟩, 32) := ⟨⟨by decide +kernel, by decide +kernel⟩, List.mem_of_getElem? (i := 563) (by decide +kernel), List.mem_of_getElem? (i := 809) (by decide +kernel), List.mem_of_getElem? (i := 810) (by decide +kernel)⟩
theorem lw_p41 : lw_okq (⟨"SlidesOverSlidesModel", "pricesOf", "(I)I"⟩, 32) := ⟨⟨by decide +kernel, by decide +kernel⟩, List.mem_of_getElem? (i := 563) (by decide +kernel), List.mem_of_getElem? (i := 813) (by decide +kernel), List.mem_of_getElem? (i := 814) (by decide +kernel)⟩
theorem lw_p42 : lw_okq (⟨"SlidesOverSlidesModel", "canWithout", "(I)I"⟩, 32) := ⟨⟨by decide +kernel, by decide +kernel⟩, List.mem_of_getElem? (i := 563) (by decide +kernel), List.mem_of_getElem? (i := 829) (by decide +kernel), List.mem_of_getElem? (i := 830) (by decide +kernel)⟩
theorem lw_p43 : lw_okq (⟨"SlidesOverSlidesModel", "notAsked", "(IIII)I"⟩, 32) := ⟨⟨by decide +kernel, by decide +kernel⟩, List.mem_of_getElem? (i := 563) (by decide +kernel), List.mem_of_getElem? (i := 841) (by decide +kernel), List.mem_of_getElem? (i := 842) (by decide +kernel)⟩
theorem lw_p44 : lw_okq (⟨"SlidesOverSlidesModel", "lowest", "(I)J"⟩, 32) := ⟨⟨by decide +kernel, by decide +kernel⟩, List.mem_of_getElem? (i := 563) (by decide +kernel), List.mem_of_getElem? (i := 853) (by decide +kernel), List.mem_of_getElem? (i := 854) (by decide +kernel)⟩
theorem lw_p45 : lw_okq (⟨"SlidesOverSlidesModel", "findAsked", "()I"⟩, 32) := ⟨⟨by decide +kernel, by decide +kernel⟩, List.mem_of_getElem? (i := 563) (by decide +kernel), List.mem_of_getElem? (i := 866) (by decide +kernel), List.mem_of_getElem? (i := 867) (by decide +kernel)⟩
theorem lw_p46 : lw_okq (⟨"SlidesOverSlidesModel", "lowers", "(II)V"⟩, 32) := ⟨⟨by decide +kernel, by decide +kernel⟩, List.mem_of_getElem? (i := 563) (by decide +kernel), List.mem_of_getElem? (i := 873) (by decide +kernel), List.mem_of_getElem? (i := 874) (by decide +kernel)⟩
theorem lw_p47 : lw_okq (⟨"SlidesOverSlidesModel", "goesFrom", "(IIII)V"⟩, 32) := ⟨⟨by decide +kernel, by decide +kernel⟩, List.mem_of_getElem? (i := 563) (by decide +kernel), List.mem_of_getElem? (i := 877) (by decide +kernel), List.mem_of_getElem? (i := 878) (by decide +kernel)⟩
def lw_privs_3 : List (MethodName × Nat) := [(⟨"SlidesOverSlidesModel", "comes", "(I)Z"⟩, 32), (⟨"SlidesOverSlidesModel", "isSlide", "(I)Z"⟩, 32), (⟨"SlidesOverSlidesModel", "onSlide", "(I)I"⟩, 32), (⟨"SlidesOverSlidesModel", "areSlides", "(I)Z"⟩, 32), (⟨"SlidesOverSlidesModel", "laid", "(II)I"⟩, 32), (⟨"SlidesOverSlidesModel", "isShow", "(I)Z"⟩, 32), (⟨"SlidesOverSlidesModel", "projects", "(I)I"⟩, 32), (⟨"SlidesOverSlidesModel", "findShown", "(I)V"⟩, 32), (⟨"SlidesOverSlidesModel", "tellsShown", "(III)V"⟩, 32), (⟨"SlidesOverSlidesModel", "pricesOf", "(I)I"⟩, 32), (⟨"SlidesOverSlidesModel", "canWithout", "(I)I"⟩, 32), (⟨"SlidesOverSlidesModel", "notAsked", "(IIII)I"⟩, 32), (⟨"SlidesOverSlidesModel", "lowest", "(I)J"⟩, 32), (⟨"SlidesOverSlidesModel", "findAsked", "()I"⟩, 32), (⟨"SlidesOverSlidesModel", "lowers", "(II)V"⟩, 32), (⟨"SlidesOverSlidesModel", "goesFrom", "(IIII)V"⟩, 32)]
theorem lw_r3 : ∀ q ∈ lw_privs_3, lw_okq q := List.forall_mem_cons.mpr ⟨lw_p32, List.forall_mem_cons.mpr ⟨lw_p33, List.forall_mem_cons.mpr ⟨lw_p34, List.forall_mem_cons.mpr ⟨lw_p35, List.forall_mem_cons.mpr ⟨lw_p36, List.forall_mem_cons.mpr ⟨lw_p37, List.forall_mem_cons.mpr ⟨lw_p38, List.forall_mem_cons.mpr ⟨lw_p39, List.forall_mem_cons.mpr ⟨lw_p40, List.forall_mem_cons.mpr ⟨lw_p41, List.forall_mem_cons.mpr ⟨lw_p42, List.forall_mem_cons.mpr ⟨lw_p43, List.forall_mem_cons.mpr ⟨lw_p44, List.forall_mem_cons.mpr ⟨lw_p45, List.forall_mem_cons.mpr ⟨lw_p46, List.forall_mem_cons.mpr ⟨lw_p47, fun _ h => absurd h List.not_mem_nil⟩⟩⟩⟩⟩⟩⟩⟩⟩⟩⟩⟩⟩⟩⟩⟩
theorem lw_p48 : lw_okq (⟨"SlidesOverSlidesModel", "isWish", "(I)Z"⟩, 32) := ⟨⟨by decide +kernel, by decide +kernel⟩, List.mem_of_getElem? (i := 563) (by decide +kernel), List.mem_of_getElem? (i := 889) (by decide +kernel), List.mem_of_getElem? (i := 890) (by decide +kernel)⟩
def lw_privs_4 : List (MethodName × Nat) := [(⟨"SlidesOverSlidesModel", "isWish", "(I)Z"⟩, 32)]
theorem lw_r4 : ∀ q ∈ lw_privs_4, lw_okq q := List.forall_mem_cons.mpr ⟨lw_p48, fun _ h => absurd h List.not_mem_nil⟩
def lw_privs : List (MethodName × Nat) := lw_privs_1 ++ (lw_privs_2 ++ (lw_privs_3 ++ (lw_privs_4)))
def lw_tbl : List Cond := k2_sels lw_privs ++ tables_1
theorem lw_privs_ok : ∀ q ∈ lw_privs, lw_okq q := by
  show ∀ q ∈ lw_privs_1 ++ (lw_privs_2 ++ (lw_privs_3 ++ (lw_privs_4))), lw_okq q
  exact List.forall_mem_append.mpr ⟨lw_r1, List.forall_mem_append.mpr ⟨lw_r2, List.forall_mem_append.mpr ⟨lw_r3, lw_r4⟩⟩⟩
end
section
def RX0 : String := "SlidesOverSlides$Cells"
def TX0 : u_T := fun k => match k with
  | _ => ("", "", "", false)
def tyX0 : Nat → FieldType := fun k => match k with
  | _ => .int
abbrev wsX00 : List Cond := u_ws RX0 TX0 0
theorem nmX0 : ∀ a, a < 0 → ∀ b, b < 0 → a ≠ b → (TX0 a).2.1 ≠ (TX0 b).2.1 := by decide +kernel
theorem tyX0_ok : ∀ k, k < 0 → parseFieldDescriptor (TX0 k).2.2.1 = some (tyX0 k) := by decide +kernel
abbrev cX0_mirrored : ByteArray := prog_2_method_2_code
def yX0_mirrored : MethodName := ⟨RX0, "mirrored", "(I)I"⟩
abbrev cX0_flipped : ByteArray := prog_2_method_3_code
def yX0_flipped : MethodName := ⟨RX0, "flipped", "(I)I"⟩
abbrev cX0_shifted : ByteArray := prog_2_method_4_code
def yX0_shifted : MethodName := ⟨RX0, "shifted", "(II)I"⟩
abbrev cX0_groups : ByteArray := prog_2_method_5_code
def yX0_groups : MethodName := ⟨RX0, "groups", "(I)I"⟩
abbrev cX0_grown : ByteArray := prog_2_method_6_code
def yX0_grown : MethodName := ⟨RX0, "grown", "(II)I"⟩
def RX1 : String := "SlidesOverSlides$Lantern"
def TX1 : u_T := fun k => match k with
  | 0 => ("SlidesOverSlides$Lantern", "kinds", "[I", true)
  | 1 => ("SlidesOverSlides$Lantern", "figures", "[I", true)
  | 2 => ("SlidesOverSlides$Lantern", "painted", "[I", true)
  | 3 => ("SlidesOverSlides$Lantern", "prices", "[I", true)
  | 4 => ("SlidesOverSlides$Lantern", "uses", "[I", true)
  | 5 => ("SlidesOverSlides$Lantern", "wantedPictures", "[I", true)
  | 6 => ("SlidesOverSlides$Lantern", "slideCount", "I", false)
  | 7 => ("SlidesOverSlides$Lantern", "wantedCount", "I", false)
  | _ => ("SlidesOverSlides$Lantern", "heatNow", "I", false)
def tyX1 : Nat → FieldType := fun k => match k with
  | 0 => .array .int
  | 1 => .array .int
  | 2 => .array .int
  | 3 => .array .int
  | 4 => .array .int
  | 5 => .array .int
  | 6 => .int
  | 7 => .int
  | _ => .int
abbrev wsX10 : List Cond := u_ws RX1 TX1 9
theorem nmX1 : ∀ a, a < 9 → ∀ b, b < 9 → a ≠ b → (TX1 a).2.1 ≠ (TX1 b).2.1 := by decide +kernel
theorem tyX1_ok : ∀ k, k < 9 → parseFieldDescriptor (TX1 k).2.2.1 = some (tyX1 k) := by decide +kernel
abbrev cX1_init : ByteArray := prog_3_method_1_code
def yX1_init : MethodName := ⟨RX1, "<init>", "()V"⟩
abbrev cX1_becomes : ByteArray := prog_3_method_2_code
def yX1_becomes : MethodName := ⟨RX1, "becomes", "(LSlidesOverSlides$Lantern;)V"⟩
abbrev cX1_addsSlide : ByteArray := prog_3_method_3_code
def yX1_addsSlide : MethodName := ⟨RX1, "addsSlide", "(IIII)Z"⟩
abbrev cX1_addsWanted : ByteArray := prog_3_method_4_code
def yX1_addsWanted : MethodName := ⟨RX1, "addsWanted", "(I)Z"⟩
abbrev cX1_heats : ByteArray := prog_3_method_5_code
def yX1_heats : MethodName := ⟨RX1, "heats", "(I)Z"⟩
abbrev cX1_has : ByteArray := prog_3_method_6_code
def yX1_has : MethodName := ⟨RX1, "has", "(I)Z"⟩
abbrev cX1_hasAll : ByteArray := prog_3_method_7_code
def yX1_hasAll : MethodName := ⟨RX1, "hasAll", "(I)Z"⟩
abbrev cX1_hasWanted : ByteArray := prog_3_method_8_code
def yX1_hasWanted : MethodName := ⟨RX1, "hasWanted", "(I)Z"⟩
abbrev cX1_isProjectable : ByteArray := prog_3_method_9_code
def yX1_isProjectable : MethodName := ⟨RX1, "isProjectable", "(I)Z"⟩
abbrev cX1_isWanted : ByteArray := prog_3_method_10_code
def yX1_isWanted : MethodName := ⟨RX1, "isWanted", "(I)Z"⟩
abbrev cX1_wantedPicture : ByteArray := prog_3_method_11_code
def yX1_wantedPicture : MethodName := ⟨RX1, "wantedPicture", "(I)I"⟩
abbrev cX1_told : ByteArray := prog_3_method_12_code
def yX1_told : MethodName := ⟨RX1, "told", "(II)I"⟩
abbrev cX1_repriced : ByteArray := prog_3_method_13_code
def yX1_repriced : MethodName := ⟨RX1, "repriced", "(II)I"⟩
abbrev cX1_onSlide : ByteArray := prog_3_method_14_code
def yX1_onSlide : MethodName := ⟨RX1, "onSlide", "(I)I"⟩
abbrev cX1_cracked : ByteArray := prog_3_method_15_code
def yX1_cracked : MethodName := ⟨RX1, "cracked", "(I)I"⟩
abbrev cX1_laid : ByteArray := prog_3_method_16_code
def yX1_laid : MethodName := ⟨RX1, "laid", "(II)I"⟩
abbrev cX1_projected : ByteArray := prog_3_method_17_code
def yX1_projected : MethodName := ⟨RX1, "projected", "(I)I"⟩
abbrev cX1_wear : ByteArray := prog_3_method_18_code
def yX1_wear : MethodName := ⟨RX1, "wear", "(I)V"⟩
abbrev cX1_nearestWanted : ByteArray := prog_3_method_19_code
def yX1_nearestWanted : MethodName := ⟨RX1, "nearestWanted", "(I)I"⟩
abbrev cX1_cracksToShow : ByteArray := prog_3_method_20_code
def yX1_cracksToShow : MethodName := ⟨RX1, "cracksToShow", "(III)I"⟩
abbrev cX1_allUses : ByteArray := prog_3_method_21_code
def yX1_allUses : MethodName := ⟨RX1, "allUses", "()I"⟩
abbrev cX1_allPrices : ByteArray := prog_3_method_22_code
def yX1_allPrices : MethodName := ⟨RX1, "allPrices", "()I"⟩
def RX2 : String := "SlidesOverSlides$Letters"
def TX2 : u_T := fun k => match k with
  | 0 => ("SlidesOverSlides$Letters", "signs", "[I", true)
  | _ => ("SlidesOverSlides$Letters", "told", "I", false)
def tyX2 : Nat → FieldType := fun k => match k with
  | 0 => .array .int
  | _ => .int
abbrev wsX20 : List Cond := u_ws RX2 TX2 2
theorem nmX2 : ∀ a, a < 2 → ∀ b, b < 2 → a ≠ b → (TX2 a).2.1 ≠ (TX2 b).2.1 := by decide +kernel
theorem tyX2_ok : ∀ k, k < 2 → parseFieldDescriptor (TX2 k).2.2.1 = some (tyX2 k) := by decide +kernel
abbrev cX2_init : ByteArray := prog_4_method_1_code
def yX2_init : MethodName := ⟨RX2, "<init>", "()V"⟩
abbrev cX2_isFull : ByteArray := prog_4_method_2_code
def yX2_isFull : MethodName := ⟨RX2, "isFull", "()Z"⟩
abbrev cX2_taken : ByteArray := prog_4_method_3_code
def yX2_taken : MethodName := ⟨RX2, "taken", "(I)I"⟩
abbrev cX2_forget : ByteArray := prog_4_method_4_code
def yX2_forget : MethodName := ⟨RX2, "forget", "()V"⟩
abbrev cX2_fault : ByteArray := prog_4_method_5_code
def yX2_fault : MethodName := ⟨RX2, "fault", "()I"⟩
abbrev cX2_stateBehind : ByteArray := prog_4_method_6_code
def yX2_stateBehind : MethodName := ⟨RX2, "stateBehind", "(II)I"⟩
abbrev cX2_stateOpened : ByteArray := prog_4_method_7_code
def yX2_stateOpened : MethodName := ⟨RX2, "stateOpened", "(I)I"⟩
abbrev cX2_isDigit : ByteArray := prog_4_method_8_code
def yX2_isDigit : MethodName := ⟨RX2, "isDigit", "(I)Z"⟩
abbrev cX2_toldTo : ByteArray := prog_4_method_9_code
def yX2_toldTo : MethodName := ⟨RX2, "toldTo", "(LSlidesOverSlides$Lantern;)I"⟩
abbrev cX2_statementComes : ByteArray := prog_4_method_10_code
def yX2_statementComes : MethodName := ⟨RX2, "statementComes", "(LSlidesOverSlides$Lantern;II)Z"⟩
abbrev cX2_signAt : ByteArray := prog_4_method_11_code
def yX2_signAt : MethodName := ⟨RX2, "signAt", "(I)I"⟩
abbrev cX2_digit : ByteArray := prog_4_method_12_code
def yX2_digit : MethodName := ⟨RX2, "digit", "(I)I"⟩
abbrev cX2_number : ByteArray := prog_4_method_13_code
def yX2_number : MethodName := ⟨RX2, "number", "(II)I"⟩
abbrev cX2_pictureBefore : ByteArray := prog_4_method_14_code
def yX2_pictureBefore : MethodName := ⟨RX2, "pictureBefore", "(I)I"⟩
def RX3 : String := "SlidesOverSlides$Search"
def TX3 : u_T := fun k => match k with
  | 0 => ("SlidesOverSlides$Search", "straight", "[I", true)
  | 1 => ("SlidesOverSlides$Search", "turned", "[I", true)
  | 2 => ("SlidesOverSlides$Search", "slidePrices", "[I", true)
  | 3 => ("SlidesOverSlides$Search", "reach", "[I", true)
  | 4 => ("SlidesOverSlides$Search", "depth", "I", false)
  | 5 => ("SlidesOverSlides$Search", "target", "I", false)
  | 6 => ("SlidesOverSlides$Search", "leastFound", "I", false)
  | 7 => ("SlidesOverSlides$Search", "fewestSize", "I", false)
  | 8 => ("SlidesOverSlides$Search", "fewestSet", "I", false)
  | 9 => ("SlidesOverSlides$Search", "fewestOver", "I", false)
  | _ => ("SlidesOverSlides$Search", "fewestWays", "I", false)
def tyX3 : Nat → FieldType := fun k => match k with
  | 0 => .array .int
  | 1 => .array .int
  | 2 => .array .int
  | 3 => .array .int
  | 4 => .int
  | 5 => .int
  | 6 => .int
  | 7 => .int
  | 8 => .int
  | 9 => .int
  | _ => .int
abbrev wsX30 : List Cond := u_ws RX3 TX3 11
theorem nmX3 : ∀ a, a < 11 → ∀ b, b < 11 → a ≠ b → (TX3 a).2.1 ≠ (TX3 b).2.1 := by decide +kernel
theorem tyX3_ok : ∀ k, k < 11 → parseFieldDescriptor (TX3 k).2.2.1 = some (tyX3 k) := by decide +kernel
abbrev cX3_init : ByteArray := prog_5_method_1_code
def yX3_init : MethodName := ⟨RX3, "<init>", "()V"⟩
abbrev cX3_findsFewest : ByteArray := prog_5_method_2_code
def yX3_findsFewest : MethodName := ⟨RX3, "findsFewest", "(LSlidesOverSlides$Lantern;I)Z"⟩
abbrev cX3_leastPrice : ByteArray := prog_5_method_3_code
def yX3_leastPrice : MethodName := ⟨RX3, "leastPrice", "(LSlidesOverSlides$Lantern;I)I"⟩
abbrev cX3_leastUnlike : ByteArray := prog_5_method_4_code
def yX3_leastUnlike : MethodName := ⟨RX3, "leastUnlike", "(LSlidesOverSlides$Lantern;I)I"⟩
abbrev cX3_showable : ByteArray := prog_5_method_5_code
def yX3_showable : MethodName := ⟨RX3, "showable", "(LSlidesOverSlides$Lantern;I)I"⟩
abbrev cX3_load : ByteArray := prog_5_method_6_code
def yX3_load : MethodName := ⟨RX3, "load", "(LSlidesOverSlides$Lantern;III)V"⟩
abbrev cX3_usable : ByteArray := prog_5_method_7_code
def yX3_usable : MethodName := ⟨RX3, "usable", "(II)I"⟩
abbrev cX3_dark : ByteArray := prog_5_method_8_code
def yX3_dark : MethodName := ⟨RX3, "dark", "(I)I"⟩
abbrev cX3_isOutOfReach : ByteArray := prog_5_method_9_code
def yX3_isOutOfReach : MethodName := ⟨RX3, "isOutOfReach", "(II)Z"⟩
abbrev cX3_seekFewest : ByteArray := prog_5_method_10_code
def yX3_seekFewest : MethodName := ⟨RX3, "seekFewest", "(IIII)V"⟩
abbrev cX3_noteFewest : ByteArray := prog_5_method_11_code
def yX3_noteFewest : MethodName := ⟨RX3, "noteFewest", "(II)V"⟩
abbrev cX3_seekCheapest : ByteArray := prog_5_method_12_code
def yX3_seekCheapest : MethodName := ⟨RX3, "seekCheapest", "(III)V"⟩
abbrev cX3_seekNear : ByteArray := prog_5_method_13_code
def yX3_seekNear : MethodName := ⟨RX3, "seekNear", "(II)V"⟩
abbrev cX3_isShown : ByteArray := prog_5_method_14_code
def yX3_isShown : MethodName := ⟨RX3, "isShown", "(II)Z"⟩
def RX4 : String := "SlidesOverSlides$Tour"
def TX4 : u_T := fun k => match k with
  | 0 => ("SlidesOverSlides$Tour", "stops", "[I", true)
  | 1 => ("SlidesOverSlides$Tour", "shown", "[I", true)
  | _ => ("SlidesOverSlides$Tour", "steps", "[I", true)
def tyX4 : Nat → FieldType := fun k => match k with
  | 0 => .array .int
  | 1 => .array .int
  | _ => .array .int
abbrev wsX40 : List Cond := u_ws RX4 TX4 3
theorem nmX4 : ∀ a, a < 3 → ∀ b, b < 3 → a ≠ b → (TX4 a).2.1 ≠ (TX4 b).2.1 := by decide +kernel
theorem tyX4_ok : ∀ k, k < 3 → parseFieldDescriptor (TX4 k).2.2.1 = some (tyX4 k) := by decide +kernel
abbrev cX4_init : ByteArray := prog_6_method_1_code
def yX4_init : MethodName := ⟨RX4, "<init>", "()V"⟩
abbrev cX4_leastCost : ByteArray := prog_6_method_2_code
def yX4_leastCost : MethodName := ⟨RX4, "leastCost", "(LSlidesOverSlides$Lantern;)I"⟩
abbrev cX4_layAll : ByteArray := prog_6_method_3_code
def yX4_layAll : MethodName := ⟨RX4, "layAll", "(LSlidesOverSlides$Lantern;I)V"⟩
abbrev cX4_findStops : ByteArray := prog_6_method_4_code
def yX4_findStops : MethodName := ⟨RX4, "findStops", "(LSlidesOverSlides$Lantern;I)I"⟩
abbrev cX4_isShownByOne : ByteArray := prog_6_method_5_code
def yX4_isShownByOne : MethodName := ⟨RX4, "isShownByOne", "(II)Z"⟩
abbrev cX4_arrive : ByteArray := prog_6_method_6_code
def yX4_arrive : MethodName := ⟨RX4, "arrive", "(III)V"⟩
abbrev cX4_walk : ByteArray := prog_6_method_7_code
def yX4_walk : MethodName := ⟨RX4, "walk", "(II)V"⟩
abbrev cX4_leastSteps : ByteArray := prog_6_method_8_code
def yX4_leastSteps : MethodName := ⟨RX4, "leastSteps", "(II)I"⟩
def RX5 : String := "SlidesOverSlides"
def TX5 : u_T := fun k => match k with
  | 0 => ("SlidesOverSlides", "now", "LSlidesOverSlides$Lantern;", true)
  | 1 => ("SlidesOverSlides", "mind", "LSlidesOverSlides$Lantern;", true)
  | 2 => ("SlidesOverSlides", "kept", "LSlidesOverSlides$Lantern;", true)
  | 3 => ("SlidesOverSlides", "isKept", "Z", false)
  | 4 => ("SlidesOverSlides", "letters", "LSlidesOverSlides$Letters;", true)
  | 5 => ("SlidesOverSlides", "search", "LSlidesOverSlides$Search;", true)
  | 6 => ("SlidesOverSlides", "tour", "LSlidesOverSlides$Tour;", true)
  | 7 => ("SlidesOverSlides", "rowSets", "[I", true)
  | 8 => ("SlidesOverSlides", "rowSize", "I", false)
  | _ => ("SlidesOverSlides", "refusals", "[I", true)
def tyX5 : Nat → FieldType := fun k => match k with
  | 0 => .object "SlidesOverSlides$Lantern"
  | 1 => .object "SlidesOverSlides$Lantern"
  | 2 => .object "SlidesOverSlides$Lantern"
  | 3 => .boolean
  | 4 => .object "SlidesOverSlides$Letters"
  | 5 => .object "SlidesOverSlides$Search"
  | 6 => .object "SlidesOverSlides$Tour"
  | 7 => .array .int
  | 8 => .int
  | _ => .array .int
abbrev wsX50 : List Cond := u_ws RX5 TX5 10
theorem nmX5 : ∀ a, a < 10 → ∀ b, b < 10 → a ≠ b → (TX5 a).2.1 ≠ (TX5 b).2.1 := by decide +kernel
theorem tyX5_ok : ∀ k, k < 10 → parseFieldDescriptor (TX5 k).2.2.1 = some (tyX5 k) := by decide +kernel
abbrev cX5_init : ByteArray := prog_1_method_1_code
def yX5_init : MethodName := ⟨RX5, "<init>", "()V"⟩
abbrev cX5_feed : ByteArray := prog_1_method_2_code
def yX5_feed : MethodName := ⟨RX5, "feed", "(I)I"⟩
abbrev cX5_lantern : ByteArray := prog_1_method_3_code
def yX5_lantern : MethodName := ⟨RX5, "lantern", "()I"⟩
abbrev cX5_slide : ByteArray := prog_1_method_4_code
def yX5_slide : MethodName := ⟨RX5, "slide", "(II)I"⟩
abbrev cX5_wanted : ByteArray := prog_1_method_5_code
def yX5_wanted : MethodName := ⟨RX5, "wanted", "(I)I"⟩
abbrev cX5_heat : ByteArray := prog_1_method_6_code
def yX5_heat : MethodName := ⟨RX5, "heat", "(I)I"⟩
abbrev cX5_price : ByteArray := prog_1_method_7_code
def yX5_price : MethodName := ⟨RX5, "price", "(II)I"⟩
abbrev cX5_lay : ByteArray := prog_1_method_8_code
def yX5_lay : MethodName := ⟨RX5, "lay", "(II)I"⟩
abbrev cX5_project : ByteArray := prog_1_method_9_code
def yX5_project : MethodName := ⟨RX5, "project", "(I)I"⟩
abbrev cX5_gaps : ByteArray := prog_1_method_10_code
def yX5_gaps : MethodName := ⟨RX5, "gaps", "(II)I"⟩
abbrev cX5_nearest : ByteArray := prog_1_method_11_code
def yX5_nearest : MethodName := ⟨RX5, "nearest", "(II)I"⟩
abbrev cX5_fewest : ByteArray := prog_1_method_12_code
def yX5_fewest : MethodName := ⟨RX5, "fewest", "(II)I"⟩
abbrev cX5_cheapest : ByteArray := prog_1_method_13_code
def yX5_cheapest : MethodName := ⟨RX5, "cheapest", "(I)I"⟩
abbrev cX5_near : ByteArray := prog_1_method_14_code
def yX5_near : MethodName := ⟨RX5, "near", "(I)I"⟩
abbrev cX5_can : ByteArray := prog_1_method_15_code
def yX5_can : MethodName := ⟨RX5, "can", "(I)I"⟩
abbrev cX5_worth : ByteArray := prog_1_method_16_code
def yX5_worth : MethodName := ⟨RX5, "worth", "(I)I"⟩
abbrev cX5_sure : ByteArray := prog_1_method_17_code
def yX5_sure : MethodName := ⟨RX5, "sure", "(III)I"⟩
abbrev cX5_who : ByteArray := prog_1_method_18_code
def yX5_who : MethodName := ⟨RX5, "who", "(III)I"⟩
abbrev cX5_dust : ByteArray := prog_1_method_19_code
def yX5_dust : MethodName := ⟨RX5, "dust", "(III)J"⟩
abbrev cX5_round : ByteArray := prog_1_method_20_code
def yX5_round : MethodName := ⟨RX5, "round", "()I"⟩
abbrev cX5_row : ByteArray := prog_1_method_21_code
def yX5_row : MethodName := ⟨RX5, "row", "(I)I"⟩
abbrev cX5_judge : ByteArray := prog_1_method_22_code
def yX5_judge : MethodName := ⟨RX5, "judge", "()I"⟩
abbrev cX5_seeds : ByteArray := prog_1_method_23_code
def yX5_seeds : MethodName := ⟨RX5, "seeds", "(II)I"⟩
abbrev cX5_image : ByteArray := prog_1_method_24_code
def yX5_image : MethodName := ⟨RX5, "image", "()I"⟩
abbrev cX5_restore : ByteArray := prog_1_method_25_code
def yX5_restore : MethodName := ⟨RX5, "restore", "()I"⟩
abbrev cX5_count : ByteArray := prog_1_method_26_code
def yX5_count : MethodName := ⟨RX5, "count", "(I)I"⟩
abbrev cX5_refused : ByteArray := prog_1_method_27_code
def yX5_refused : MethodName := ⟨RX5, "refused", "(I)I"⟩
abbrev cX5_first : ByteArray := prog_1_method_28_code
def yX5_first : MethodName := ⟨RX5, "first", "(II)I"⟩
abbrev cX5_wrongSlide : ByteArray := prog_1_method_29_code
def yX5_wrongSlide : MethodName := ⟨RX5, "wrongSlide", "(I)I"⟩
abbrev cX5_wrongSet : ByteArray := prog_1_method_30_code
def yX5_wrongSet : MethodName := ⟨RX5, "wrongSet", "(I)I"⟩
abbrev cX5_wrongWhat : ByteArray := prog_1_method_31_code
def yX5_wrongWhat : MethodName := ⟨RX5, "wrongWhat", "(II)I"⟩
abbrev cX5_wrongNumber : ByteArray := prog_1_method_32_code
def yX5_wrongNumber : MethodName := ⟨RX5, "wrongNumber", "(III)I"⟩
abbrev cX5_wrongAsked : ByteArray := prog_1_method_33_code
def yX5_wrongAsked : MethodName := ⟨RX5, "wrongAsked", "(III)I"⟩
abbrev cX5_power : ByteArray := prog_1_method_34_code
def yX5_power : MethodName := ⟨RX5, "power", "(II)J"⟩
abbrev cX5_nextSeed : ByteArray := prog_1_method_35_code
def yX5_nextSeed : MethodName := ⟨RX5, "nextSeed", "(I)I"⟩
abbrev cX5_drawBelow : ByteArray := prog_1_method_36_code
def yX5_drawBelow : MethodName := ⟨RX5, "drawBelow", "(II)I"⟩
def RX6 : String := "SlidesOverSlidesModel"
def TX6 : u_T := fun k => match k with
  | 0 => ("SlidesOverSlidesModel", "refused", "[I", true)
  | 1 => ("SlidesOverSlidesModel", "kind", "[I", true)
  | 2 => ("SlidesOverSlidesModel", "figure", "[I", true)
  | 3 => ("SlidesOverSlidesModel", "painted", "[I", true)
  | 4 => ("SlidesOverSlidesModel", "price", "[I", true)
  | 5 => ("SlidesOverSlidesModel", "uses", "[I", true)
  | 6 => ("SlidesOverSlidesModel", "wanted", "[I", true)
  | 7 => ("SlidesOverSlidesModel", "slides", "I", false)
  | 8 => ("SlidesOverSlidesModel", "wishes", "I", false)
  | 9 => ("SlidesOverSlidesModel", "heat", "I", false)
  | 10 => ("SlidesOverSlidesModel", "tape", "[I", true)
  | 11 => ("SlidesOverSlidesModel", "letter", "[I", true)
  | 12 => ("SlidesOverSlidesModel", "letterAt", "[I", true)
  | 13 => ("SlidesOverSlidesModel", "told", "[I", true)
  | 14 => ("SlidesOverSlidesModel", "taped", "I", false)
  | 15 => ("SlidesOverSlidesModel", "at", "I", false)
  | 16 => ("SlidesOverSlidesModel", "statements", "I", false)
  | 17 => ("SlidesOverSlidesModel", "kept", "[I", true)
  | 18 => ("SlidesOverSlidesModel", "hasImage", "Z", false)
  | 19 => ("SlidesOverSlidesModel", "isKeeping", "Z", false)
  | 20 => ("SlidesOverSlidesModel", "cursor", "I", false)
  | 21 => ("SlidesOverSlidesModel", "fewestMany", "I", false)
  | 22 => ("SlidesOverSlidesModel", "fewestSet", "I", false)
  | 23 => ("SlidesOverSlidesModel", "fewestOver", "I", false)
  | 24 => ("SlidesOverSlidesModel", "fewestWays", "I", false)
  | 25 => ("SlidesOverSlidesModel", "cheapest", "I", false)
  | 26 => ("SlidesOverSlidesModel", "nearness", "I", false)
  | 27 => ("SlidesOverSlidesModel", "cost", "[I", true)
  | 28 => ("SlidesOverSlidesModel", "shows", "[I", true)
  | 29 => ("SlidesOverSlidesModel", "asked", "[I", true)
  | 30 => ("SlidesOverSlidesModel", "row", "[I", true)
  | _ => ("SlidesOverSlidesModel", "rowMany", "I", false)
def tyX6 : Nat → FieldType := fun k => match k with
  | 0 => .array .int
  | 1 => .array .int
  | 2 => .array .int
  | 3 => .array .int
  | 4 => .array .int
  | 5 => .array .int
  | 6 => .array .int
  | 7 => .int
  | 8 => .int
  | 9 => .int
  | 10 => .array .int
  | 11 => .array .int
  | 12 => .array .int
  | 13 => .array .int
  | 14 => .int
  | 15 => .int
  | 16 => .int
  | 17 => .array .int
  | 18 => .boolean
  | 19 => .boolean
  | 20 => .int
  | 21 => .int
  | 22 => .int
  | 23 => .int
  | 24 => .int
  | 25 => .int
  | 26 => .int
  | 27 => .array .int
  | 28 => .array .int
  | 29 => .array .int
  | 30 => .array .int
  | _ => .int
abbrev wsX60 : List Cond := u_ws RX6 TX6 32
theorem nmX6 : ∀ a, a < 32 → ∀ b, b < 32 → a ≠ b → (TX6 a).2.1 ≠ (TX6 b).2.1 := by decide +kernel
theorem tyX6_ok : ∀ k, k < 32 → parseFieldDescriptor (TX6 k).2.2.1 = some (tyX6 k) := by decide +kernel
abbrev cX6_init : ByteArray := prog_8_method_1_code
def yX6_init : MethodName := ⟨RX6, "<init>", "()V"⟩
abbrev cX6_no : ByteArray := prog_8_method_2_code
def yX6_no : MethodName := ⟨RX6, "no", "(I)I"⟩
abbrev cX6_lowest : ByteArray := prog_8_method_3_code
def yX6_lowest : MethodName := ⟨RX6, "lowest", "(I)J"⟩
abbrev cX6_isIn : ByteArray := prog_8_method_4_code
def yX6_isIn : MethodName := ⟨RX6, "isIn", "(III)Z"⟩
abbrev cX6_bound : ByteArray := prog_8_method_5_code
def yX6_bound : MethodName := ⟨RX6, "bound", "(III)I"⟩
abbrev cX6_isSlide : ByteArray := prog_8_method_6_code
def yX6_isSlide : MethodName := ⟨RX6, "isSlide", "(I)Z"⟩
abbrev cX6_areSlides : ByteArray := prog_8_method_7_code
def yX6_areSlides : MethodName := ⟨RX6, "areSlides", "(I)Z"⟩
abbrev cX6_feed : ByteArray := prog_8_method_8_code
def yX6_feed : MethodName := ⟨RX6, "feed", "(I)I"⟩
abbrev cX6_next : ByteArray := prog_8_method_9_code
def yX6_next : MethodName := ⟨RX6, "next", "()I"⟩
abbrev cX6_readsNumber : ByteArray := prog_8_method_10_code
def yX6_readsNumber : MethodName := ⟨RX6, "readsNumber", "(II)Z"⟩
abbrev cX6_readsPicture : ByteArray := prog_8_method_11_code
def yX6_readsPicture : MethodName := ⟨RX6, "readsPicture", "(I)Z"⟩
abbrev cX6_readsSlide : ByteArray := prog_8_method_12_code
def yX6_readsSlide : MethodName := ⟨RX6, "readsSlide", "(I)Z"⟩
abbrev cX6_statement : ByteArray := prog_8_method_13_code
def yX6_statement : MethodName := ⟨RX6, "statement", "()Z"⟩
abbrev cX6_comes : ByteArray := prog_8_method_14_code
def yX6_comes : MethodName := ⟨RX6, "comes", "(I)Z"⟩
abbrev cX6_lantern : ByteArray := prog_8_method_15_code
def yX6_lantern : MethodName := ⟨RX6, "lantern", "()I"⟩
abbrev cX6_passes : ByteArray := prog_8_method_16_code
def yX6_passes : MethodName := ⟨RX6, "passes", "([I)V"⟩
abbrev cX6_passOne : ByteArray := prog_8_method_17_code
def yX6_passOne : MethodName := ⟨RX6, "passOne", "(I)I"⟩
abbrev cX6_passesAll : ByteArray := prog_8_method_18_code
def yX6_passesAll : MethodName := ⟨RX6, "passesAll", "(IZ)V"⟩
abbrev cX6_image : ByteArray := prog_8_method_19_code
def yX6_image : MethodName := ⟨RX6, "image", "()I"⟩
abbrev cX6_restore : ByteArray := prog_8_method_20_code
def yX6_restore : MethodName := ⟨RX6, "restore", "()I"⟩
abbrev cX6_bits : ByteArray := prog_8_method_21_code
def yX6_bits : MethodName := ⟨RX6, "bits", "(I)I"⟩
abbrev cX6_mirrored : ByteArray := prog_8_method_22_code
def yX6_mirrored : MethodName := ⟨RX6, "mirrored", "(I)I"⟩
abbrev cX6_upsideDown : ByteArray := prog_8_method_23_code
def yX6_upsideDown : MethodName := ⟨RX6, "upsideDown", "(I)I"⟩
abbrev cX6_shifted : ByteArray := prog_8_method_24_code
def yX6_shifted : MethodName := ⟨RX6, "shifted", "(II)I"⟩
abbrev cX6_onSlide : ByteArray := prog_8_method_25_code
def yX6_onSlide : MethodName := ⟨RX6, "onSlide", "(I)I"⟩
abbrev cX6_laid : ByteArray := prog_8_method_26_code
def yX6_laid : MethodName := ⟨RX6, "laid", "(II)I"⟩
abbrev cX6_slide : ByteArray := prog_8_method_27_code
def yX6_slide : MethodName := ⟨RX6, "slide", "(II)I"⟩
abbrev cX6_wanted : ByteArray := prog_8_method_28_code
def yX6_wanted : MethodName := ⟨RX6, "wanted", "(I)I"⟩
abbrev cX6_heat : ByteArray := prog_8_method_29_code
def yX6_heat : MethodName := ⟨RX6, "heat", "(I)I"⟩
abbrev cX6_price : ByteArray := prog_8_method_30_code
def yX6_price : MethodName := ⟨RX6, "price", "(II)I"⟩
abbrev cX6_lay : ByteArray := prog_8_method_31_code
def yX6_lay : MethodName := ⟨RX6, "lay", "(II)I"⟩
abbrev cX6_projects : ByteArray := prog_8_method_32_code
def yX6_projects : MethodName := ⟨RX6, "projects", "(I)I"⟩
abbrev cX6_isShow : ByteArray := prog_8_method_33_code
def yX6_isShow : MethodName := ⟨RX6, "isShow", "(I)Z"⟩
abbrev cX6_project : ByteArray := prog_8_method_34_code
def yX6_project : MethodName := ⟨RX6, "project", "(I)I"⟩
abbrev cX6_groups : ByteArray := prog_8_method_35_code
def yX6_groups : MethodName := ⟨RX6, "groups", "(I)I"⟩
abbrev cX6_gaps : ByteArray := prog_8_method_36_code
def yX6_gaps : MethodName := ⟨RX6, "gaps", "(II)I"⟩
abbrev cX6_nearest : ByteArray := prog_8_method_37_code
def yX6_nearest : MethodName := ⟨RX6, "nearest", "(II)I"⟩
abbrev cX6_pricesOf : ByteArray := prog_8_method_38_code
def yX6_pricesOf : MethodName := ⟨RX6, "pricesOf", "(I)I"⟩
abbrev cX6_findShown : ByteArray := prog_8_method_39_code
def yX6_findShown : MethodName := ⟨RX6, "findShown", "(I)V"⟩
abbrev cX6_tellsShown : ByteArray := prog_8_method_40_code
def yX6_tellsShown : MethodName := ⟨RX6, "tellsShown", "(III)V"⟩
abbrev cX6_fewest : ByteArray := prog_8_method_41_code
def yX6_fewest : MethodName := ⟨RX6, "fewest", "(II)I"⟩
abbrev cX6_cheapest : ByteArray := prog_8_method_42_code
def yX6_cheapest : MethodName := ⟨RX6, "cheapest", "(I)I"⟩
abbrev cX6_near : ByteArray := prog_8_method_43_code
def yX6_near : MethodName := ⟨RX6, "near", "(I)I"⟩
abbrev cX6_canWithout : ByteArray := prog_8_method_44_code
def yX6_canWithout : MethodName := ⟨RX6, "canWithout", "(I)I"⟩
abbrev cX6_can : ByteArray := prog_8_method_45_code
def yX6_can : MethodName := ⟨RX6, "can", "(I)I"⟩
abbrev cX6_worth : ByteArray := prog_8_method_46_code
def yX6_worth : MethodName := ⟨RX6, "worth", "(I)I"⟩
abbrev cX6_notAsked : ByteArray := prog_8_method_47_code
def yX6_notAsked : MethodName := ⟨RX6, "notAsked", "(IIII)I"⟩
abbrev cX6_sure : ByteArray := prog_8_method_48_code
def yX6_sure : MethodName := ⟨RX6, "sure", "(III)I"⟩
abbrev cX6_who : ByteArray := prog_8_method_49_code
def yX6_who : MethodName := ⟨RX6, "who", "(III)I"⟩
abbrev cX6_divisor : ByteArray := prog_8_method_50_code
def yX6_divisor : MethodName := ⟨RX6, "divisor", "(JJ)J"⟩
abbrev cX6_dust : ByteArray := prog_8_method_51_code
def yX6_dust : MethodName := ⟨RX6, "dust", "(III)J"⟩
abbrev cX6_findAsked : ByteArray := prog_8_method_52_code
def yX6_findAsked : MethodName := ⟨RX6, "findAsked", "()I"⟩
abbrev cX6_placeOf : ByteArray := prog_8_method_53_code
def yX6_placeOf : MethodName := ⟨RX6, "placeOf", "(III)I"⟩
abbrev cX6_lowers : ByteArray := prog_8_method_54_code
def yX6_lowers : MethodName := ⟨RX6, "lowers", "(II)V"⟩
abbrev cX6_goesFrom : ByteArray := prog_8_method_55_code
def yX6_goesFrom : MethodName := ⟨RX6, "goesFrom", "(IIII)V"⟩
abbrev cX6_round : ByteArray := prog_8_method_56_code
def yX6_round : MethodName := ⟨RX6, "round", "()I"⟩
abbrev cX6_row : ByteArray := prog_8_method_57_code
def yX6_row : MethodName := ⟨RX6, "row", "(I)I"⟩
abbrev cX6_isWish : ByteArray := prog_8_method_58_code
def yX6_isWish : MethodName := ⟨RX6, "isWish", "(I)Z"⟩
abbrev cX6_judge : ByteArray := prog_8_method_59_code
def yX6_judge : MethodName := ⟨RX6, "judge", "()I"⟩
abbrev cX6_seeds : ByteArray := prog_8_method_60_code
def yX6_seeds : MethodName := ⟨RX6, "seeds", "(II)I"⟩
abbrev cX6_count : ByteArray := prog_8_method_61_code
def yX6_count : MethodName := ⟨RX6, "count", "(I)I"⟩
def RJ6 : String := "java/lang/Integer"
def TJ6 : u_T := fun k => match k with
  | _ => ("", "", "", false)
def tyJ6 : Nat → FieldType := fun k => match k with
  | _ => .int
abbrev wsJ60 : List Cond := u_ws RJ6 TJ6 0
theorem nmJ6 : ∀ a, a < 0 → ∀ b, b < 0 → a ≠ b → (TJ6 a).2.1 ≠ (TJ6 b).2.1 := by decide +kernel
theorem tyJ6_ok : ∀ k, k < 0 → parseFieldDescriptor (TJ6 k).2.2.1 = some (tyJ6 k) := by decide +kernel
abbrev cJ6_bitCount_0f7a4 : ByteArray := prog_9_method_49_code
def yJ6_bitCount_0f7a4 : MethodName := ⟨RJ6, "bitCount", "(I)I"⟩
def RJ9 : String := "java/lang/Math"
def TJ9 : u_T := fun k => match k with
  | _ => ("", "", "", false)
def tyJ9 : Nat → FieldType := fun k => match k with
  | _ => .int
abbrev wsJ90 : List Cond := u_ws RJ9 TJ9 0
theorem nmJ9 : ∀ a, a < 0 → ∀ b, b < 0 → a ≠ b → (TJ9 a).2.1 ≠ (TJ9 b).2.1 := by decide +kernel
theorem tyJ9_ok : ∀ k, k < 0 → parseFieldDescriptor (TJ9 k).2.2.1 = some (tyJ9 k) := by decide +kernel
abbrev cJ9_min_7cf53 : ByteArray := prog_10_method_69_code
def yJ9_min_7cf53 : MethodName := ⟨RJ9, "min", "(II)I"⟩
def RL : String := "SlidesOverSlidesLaw"
abbrev cL_law : ByteArray := code
abbrev vwCl : List vw_C := [(RX1, TX1, 9), (RX2, TX2, 2), (RX3, TX3, 11), (RX4, TX4, 3), (RX5, TX5, 10), (RX6, TX6, 32)]
end
section
/-! THE ABSTRACT MACHINE. A world is a list of cells; a reference is a cell's place in its world. A method's contract is an impredicative closure: no address, no table, no frame of the real machine stands in it. -/
abbrev xE : Type := (Nat × (Nat → Int32)) ⊕ (Nat × List Value)
abbrev xH : Type := List xE
abbrev xL : Type := List (Option Value)
/-- an instruction, its length, its numbers (a constant's value; targets; a field's class, slot, type; a callee's number), its long -/
abbrev xI : Type := Instr × Nat × List (Int32 × Nat) × Int64
abbrev xT : Type := List (Nat × xI)
/-- a class: its name, its fields by pool number (class number, slot, type), its constants, its longs, its callees -/
abbrev xC : Type := String × List (Nat × Nat × Nat × Nat) × List (Nat × Int32) × List (Nat × Int64) × List (Nat × Nat)
/-- a method: its name, bytes, locals, answer, instructions, its class, whether it is static -/
abbrev xM : Type := MethodName × ByteArray × Nat × Option FieldType × xT × xC × Bool
abbrev xK : Type := Nat → xL → List Value → xH → Prop
def xnth {α : Type} : List α → Nat → Option α
  | [], _ => none
  | a :: _, 0 => some a
  | _ :: t, k + 1 => xnth t k
theorem xnth_eq {α : Type} : ∀ (l : List α) (k : Nat), xnth l k = l[k]?
  | [], _ => by simp [xnth]
  | _ :: _, 0 => by simp [xnth]
  | _ :: t, k + 1 => by simp [xnth, xnth_eq t k]
def xlk {α : Type} : List (Nat × α) → Nat → Option α
  | [], _ => none
  | (i, a) :: t, k => cond (Nat.beq i k) (some a) (xlk t k)
theorem xlk_mem {α : Type} : ∀ {l : List (Nat × α)} {k : Nat} {a : α}, xlk l k = some a → (k, a) ∈ l
  | [], _, _, h => by simp [xlk] at h
  | (i, b) :: t, k, a, h => by
    unfold xlk at h
    cases hb : Nat.beq i k with
    | true =>
      rw [hb] at h
      simp only [cond_true, Option.some.injEq] at h
      have e := Nat.eq_of_beq_eq_true hb
      subst e; subst h
      exact List.mem_cons_self
    | false =>
      rw [hb] at h
      simp only [cond_false] at h
      exact List.mem_cons_of_mem _ (xlk_mem h)
def xcat (st : List Value) : Nat := (st.map fun v => v.category).sum
/-- the place before holds no value of two slots -/
def xprev (loc : xL) : Nat → Bool
  | 0 => true
  | j + 1 => match xnth loc j with
    | some (some v) => Nat.beq v.category 1
    | _ => true
def xst1 (loc : xL) (i : Nat) (v : Value) (k : xL → Prop) : Prop := match xprev loc i, xnth loc i with
  | true, some _ => k (loc.set i (some v))
  | _, _ => False
def xst2 (loc : xL) (i : Nat) (v : Value) (k : xL → Prop) : Prop := match xprev loc i, xnth loc (i + 1) with
  | true, some _ => k ((loc.set i (some v)).set (i + 1) none)
  | _, _ => False
def xbr (c a b : Prop) : Prop := (c → a) ∧ (¬ c → b)
def xbn (c a b : Prop) : Prop := (¬ c → a) ∧ (c → b)
def xsw (x : Int32) (k : Nat → Prop) (d : Nat) : List (Int32 × Nat) → Prop
  | [] => k d
  | (key, t) :: r => (x = key → k t) ∧ (¬ x = key → xsw x k d r)
def xcmp (c : ClassFile.Cond) (x y : Int32) (a b : Prop) : Prop := match c with
  | .eq => xbr (x = y) a b
  | .ne => xbn (x = y) a b
  | .lt => xbr (x < y) a b
  | .ge => xbr (y ≤ x) a b
  | .gt => xbr (y < x) a b
  | .le => xbr (x ≤ y) a b
def xii (st : List Value) (f : Int32 → Int32 → List Value → Prop) : Prop := match st with
  | .int y :: .int x :: r => f x y r
  | _ => False
def xll (st : List Value) (f : Int64 → Int64 → List Value → Prop) : Prop := match st with
  | .long y :: .long x :: r => f x y r
  | _ => False
def xiload (loc : xL) (j : Nat) (f : Value → Prop) : Prop := match xnth loc j with
  | some (some (.int x)) => f (.int x)
  | _ => False
def xaload (loc : xL) (j : Nat) (f : Value → Prop) : Prop := match xnth loc j with
  | some (some (.ref x)) => f (.ref x)
  | _ => False
def xlload (loc : xL) (j : Nat) (f : Value → Prop) : Prop := match xnth loc j with
  | some (some (.long x)) => f (.long x)
  | _ => False
def xistore (loc : xL) (st : List Value) (j : Nat) (f : xL → List Value → Prop) : Prop := match st with
  | .int x :: r => xst1 loc j (.int x) (fun l => f l r)
  | _ => False
def xlstore (loc : xL) (st : List Value) (j : Nat) (f : xL → List Value → Prop) : Prop := match st with
  | .long x :: r => xst2 loc j (.long x) (fun l => f l r)
  | _ => False
def xcon (an : List (Int32 × Nat)) (f : Int32 → Prop) : Prop := match an with
  | (v, _) :: _ => f v
  | _ => False
def xtgt (an : List (Int32 × Nat)) (f : Nat → Prop) : Prop := match an with
  | (_, t) :: _ => f t
  | _ => False
def xgetf (an : List (Int32 × Nat)) (st : List Value) (ws : xH) (f : Value → List Value → Prop) : Prop := match an, st with
  | (_, ci) :: (_, sl) :: _, .ref a :: r => match xnth ws a with
    | some (.inr (c, fs)) => match Nat.beq c ci, xnth fs sl with
      | true, some v => f v r
      | _, _ => False
    | _ => False
  | _, _ => False
def xputf (an : List (Int32 × Nat)) (st : List Value) (ws : xH) (f : List Value → xH → Prop) : Prop := match an, st with
  | (_, ci) :: (_, sl) :: (_, ty) :: _, .int x :: .ref a :: r => match xnth ws a with
    | some (.inr (c, fs)) => match Nat.beq c ci, xnth fs sl, ty with
      | true, some _, 0 => f r (ws.set a (.inr (c, fs.set sl (.int x))))
      | true, some _, 1 => (x = 0 ∨ x = 1) ∧ f r (ws.set a (.inr (c, fs.set sl (.int x))))
      | _, _, _ => False
    | _ => False
  | _, _ => False
def xiald (st : List Value) (ws : xH) (f : Value → List Value → Prop) : Prop := match st with
  | .int i :: .ref a :: r => match xnth ws a with
    | some (.inl (n, g)) => vp_in i n ∧ f (.int (g i.toNatClampNeg)) r
    | _ => False
  | _ => False
def xiast (st : List Value) (ws : xH) (f : List Value → xH → Prop) : Prop := match st with
  | .int x :: .int i :: .ref a :: r => match xnth ws a with
    | some (.inl (n, g)) => vp_in i n ∧ f r (ws.set a (.inl (n, upd g i.toNatClampNeg x)))
    | _ => False
  | _ => False
def xalen (st : List Value) (ws : xH) (f : Value → List Value → Prop) : Prop := match st with
  | .ref a :: r => match xnth ws a with
    | some (.inl (n, _)) => f (.int (Int32.ofNat n)) r
    | _ => False
  | _ => False
def xdup (st : List Value) (f : List Value → Prop) : Prop := match st with
  | .int x :: r => f (.int x :: .int x :: r)
  | .ref x :: r => f (.ref x :: .ref x :: r)
  | _ => False
def xdup2 (st : List Value) (f : List Value → Prop) : Prop := match st with
  | .int x :: .ref y :: r => f (.int x :: .ref y :: .int x :: .ref y :: r)
  | _ => False
/-- Math.min, where the numbers say so -/
def xmin (an : List (Int32 × Nat)) (st : List Value) (f : List Value → Prop) (d : Prop) : Prop := match an with
  | (_, _) :: _ :: _ => match st with
    | .int y :: .int x :: r => match Nat.ble (xcat r) 8 with
      | true => f (.int (if y < x then y else x) :: r)
      | false => False
    | _ => False
  | _ => d
def xcnd (an : List (Int32 × Nat)) (st : List Value) (f : Int32 → List Value → Nat → Prop) : Prop := match an, st with
  | (_, t) :: _, .int x :: r => f x r t
  | _, _ => False
def xcnd2 (an : List (Int32 × Nat)) (st : List Value) (f : Int32 → Int32 → List Value → Nat → Prop) : Prop := match an, st with
  | (_, t) :: _, .int y :: .int x :: r => f x y r t
  | _, _ => False
def xswi (an : List (Int32 × Nat)) (st : List Value) (f : Int32 → List Value → Nat → List (Int32 × Nat) → Prop) : Prop := match an, st with
  | (_, d) :: cs, .int x :: r => f x r d cs
  | _, _ => False
def xi2l (st : List Value) (f : List Value → Prop) : Prop := match st with
  | .int x :: r => f (.long x.toInt64 :: r)
  | _ => False
def xineg (st : List Value) (f : List Value → Prop) : Prop := match st with
  | .int x :: r => f (.int (-x) :: r)
  | _ => False
/-- one instruction that is no call and no return: what must hold so that the machine goes on to k -/
def xstep (i : xI) (pc : Nat) (loc : xL) (st : List Value) (ws : xH) (k : xK) (dflt : Prop) : Prop :=
  match i with
  | (op, n, an, jl) => match op with
    | .aload_n j => xaload loc j.val (fun v => k (pc + n) loc (v :: st) ws)
    | .aload j => xaload loc j (fun v => k (pc + n) loc (v :: st) ws)
    | .iload_n j => xiload loc j.val (fun v => k (pc + n) loc (v :: st) ws)
    | .iload j => xiload loc j (fun v => k (pc + n) loc (v :: st) ws)
    | .lload_n j => xlload loc j.val (fun v => k (pc + n) loc (v :: st) ws)
    | .lload j => xlload loc j (fun v => k (pc + n) loc (v :: st) ws)
    | .istore_n j => xistore loc st j.val (fun l r => k (pc + n) l r ws)
    | .istore j => xistore loc st j (fun l r => k (pc + n) l r ws)
    | .lstore_n j => xlstore loc st j.val (fun l r => k (pc + n) l r ws)
    | .lstore j => xlstore loc st j (fun l r => k (pc + n) l r ws)
    | .iinc j _ => match xnth loc j with
      | some (some (.int x)) => xcon an (fun v => xst1 loc j (.int (x + v)) (fun l => k (pc + n) l st ws))
      | _ => False
    | .iconst _ => xcon an (fun v => k (pc + n) loc (.int v :: st) ws)
    | .bipush _ => xcon an (fun v => k (pc + n) loc (.int v :: st) ws)
    | .sipush _ => xcon an (fun v => k (pc + n) loc (.int v :: st) ws)
    | .ldc _ => xcon an (fun v => k (pc + n) loc (.int v :: st) ws)
    | .ldc_w _ => xcon an (fun v => k (pc + n) loc (.int v :: st) ws)
    | .lconst _ => k (pc + n) loc (.long jl :: st) ws
    | .ldc2_w _ => k (pc + n) loc (.long jl :: st) ws
    | .iadd => xii st (fun x y r => k (pc + n) loc (.int (x + y) :: r) ws)
    | .isub => xii st (fun x y r => k (pc + n) loc (.int (x - y) :: r) ws)
    | .imul => xii st (fun x y r => k (pc + n) loc (.int (x * y) :: r) ws)
    | .iand => xii st (fun x y r => k (pc + n) loc (.int (x &&& y) :: r) ws)
    | .ior => xii st (fun x y r => k (pc + n) loc (.int (x ||| y) :: r) ws)
    | .ixor => xii st (fun x y r => k (pc + n) loc (.int (x ^^^ y) :: r) ws)
    | .idiv => xii st (fun x y r => ¬ y = 0 ∧ k (pc + n) loc (.int (x / y) :: r) ws)
    | .irem => xii st (fun x y r => ¬ y = 0 ∧ k (pc + n) loc (.int (x - x / y * y) :: r) ws)
    | .ishl => xii st (fun x y r => k (pc + n) loc (.int (x <<< (y &&& 31)) :: r) ws)
    | .ishr => xii st (fun x y r => k (pc + n) loc (.int (x >>> (y &&& 31)) :: r) ws)
    | .iushr => xii st (fun x y r => k (pc + n) loc (.int ((x.toUInt32 >>> (y.toUInt32 &&& Int32.toUInt32 31)).toInt32) :: r) ws)
    | .ineg => xineg st (fun r => k (pc + n) loc r ws)
    | .i2l => xi2l st (fun r => k (pc + n) loc r ws)
    | .lsub => xll st (fun x y r => k (pc + n) loc (.long (x - y) :: r) ws)
    | .lmul => xll st (fun x y r => k (pc + n) loc (.long (x * y) :: r) ws)
    | .ldiv => xll st (fun x y r => ¬ y = 0 ∧ k (pc + n) loc (.long (x / y) :: r) ws)
    | .lrem => xll st (fun x y r => ¬ y = 0 ∧ k (pc + n) loc (.long (x - x / y * y) :: r) ws)
    | .lcmp => xll st (fun x y r => k (pc + n) loc (.int (lg_cmp x y) :: r) ws)
    | .dup => xdup st (fun r => k (pc + n) loc r ws)
    | .dup2 => xdup2 st (fun r => k (pc + n) loc r ws)
    | .getfield _ => xgetf an st ws (fun v r => k (pc + n) loc (v :: r) ws)
    | .putfield _ => xputf an st ws (fun r w => k (pc + n) loc r w)
    | .iaload => xiald st ws (fun v r => k (pc + n) loc (v :: r) ws)
    | .iastore => xiast st ws (fun r w => k (pc + n) loc r w)
    | .arraylength => xalen st ws (fun v r => k (pc + n) loc (v :: r) ws)
    | .goto _ => xtgt an (fun t => k t loc st ws)
    | .ifCond c _ => xcnd an st (fun x r t => xcmp c x 0 (k t loc r ws) (k (pc + n) loc r ws))
    | .if_icmp c _ => xcnd2 an st (fun x y r t => xcmp c x y (k t loc r ws) (k (pc + n) loc r ws))
    | .tableswitch _ _ _ _ => xswi an st (fun x r d cs => xsw x (fun t => k t loc r ws) d cs)
    | .lookupswitch _ _ => xswi an st (fun x r d cs => xsw x (fun t => k t loc r ws) d cs)
    | .invokestatic _ => xmin an st (fun r => k (pc + n) loc r ws) dflt
    | _ => dflt
/-- many instructions: as far as a call, a return, a place to stop at, or the fuel goes -/
def xwp (tb : xT) (stops : List Nat) (G : xK) : Nat → xK
  | 0 => G
  | f + 1 => fun pc loc st ws => match xlk tb pc with
    | none => False
    | some i => xstep i pc loc st ws (fun pc' loc' st' ws' => match stops.any (fun s => Nat.beq s pc') with
      | true => G pc' loc' st' ws'
      | false => xwp tb stops G f pc' loc' st' ws') (G pc loc st ws)
/-- numbers that an instruction bears are its own -/
def xok (K : xC) (pc : Nat) (i : xI) : Bool := match i with
  | (op, n, an, jl) => match op with
    | .aload_n _ | .iload_n _ | .lload_n _ | .istore_n _ | .lstore_n _ => Nat.beq n 1
    | .aload _ | .iload _ | .lload _ | .istore _ | .lstore _ => Nat.beq n 2
    | .iinc _ c => Nat.beq n 3 && match an with
      | (v, _) :: _ => decide (Int32.ofInt c = v)
      | _ => false
    | .iconst c => Nat.beq n 1 && match an with
      | (v, _) :: _ => decide (Int32.ofInt c = v)
      | _ => false
    | .bipush c => Nat.beq n 2 && match an with
      | (v, _) :: _ => decide ((Int8.ofInt c).toInt32 = v)
      | _ => false
    | .sipush c => Nat.beq n 3 && match an with
      | (v, _) :: _ => decide ((Int16.ofInt c).toInt32 = v)
      | _ => false
    | .ldc x => Nat.beq n 2 && match an with
      | (v, _) :: _ => decide (xlk K.2.2.1 x = some v)
      | _ => false
    | .ldc_w x => Nat.beq n 3 && match an with
      | (v, _) :: _ => decide (xlk K.2.2.1 x = some v)
      | _ => false
    | .lconst c => Nat.beq n 1 && decide (Int64.ofNat (c : Nat) = jl)
    | .ldc2_w x => Nat.beq n 3 && decide (xlk K.2.2.2.1 x = some jl)
    | .iadd | .isub | .imul | .iand | .ior | .ixor | .idiv | .irem | .ishl | .ishr | .iushr | .ineg | .i2l | .lsub | .lmul | .ldiv | .lrem | .lcmp | .dup | .dup2 | .iaload | .iastore | .arraylength => Nat.beq n 1
    | .getfield x => Nat.beq n 3 && match an with
      | (_, ci) :: (_, sl) :: (_, ty) :: _ => decide (xlk K.2.1 x = some (ci, sl, ty))
      | _ => false
    | .putfield x => Nat.beq n 3 && match an with
      | (_, ci) :: (_, sl) :: (_, ty) :: _ => decide (xlk K.2.1 x = some (ci, sl, ty))
      | _ => false
    | .goto o => Nat.beq n 3 && match an with
      | (_, t) :: _ => decide ((pc : Int) + o = (t : Int))
      | _ => false
    | .ifCond _ o => Nat.beq n 3 && match an with
      | (_, t) :: _ => decide ((pc : Int) + o = (t : Int))
      | _ => false
    | .if_icmp _ o => Nat.beq n 3 && match an with
      | (_, t) :: _ => decide ((pc : Int) + o = (t : Int))
      | _ => false
    | .tableswitch d lo hi offs => match an with
      | (_, t) :: cs => decide ((pc : Int) + d = (t : Int)) && decide (hi = lo + (offs.size : Int) - 1) && decide (cs.map (fun q => (q.1.toInt, (q.2 : Int))) = offs.toList.zipIdx.map (fun q => (lo + (q.2 : Int), (pc : Int) + q.1)))
      | _ => false
    | .lookupswitch d ps => match an with
      | (_, t) :: cs => decide ((pc : Int) + d = (t : Int)) && decide (cs.map (fun q => (q.1.toInt, (q.2 : Int))) = ps.toList.map (fun q => (q.1, (pc : Int) + q.2))) && (ps.toList.zip (ps.toList.drop 1)).all (fun (a, next) => a.1 < next.1)
      | _ => false
    | .invokestatic x => Nat.beq n 3 && match an with
      | [(_, c)] => decide (xlk K.2.2.2.2 x = some c) && !Nat.beq c 0
      | (_, c) :: _ :: _ => decide (xlk K.2.2.2.2 x = some c) && Nat.beq c 0
      | _ => false
    | .invokevirtual x => Nat.beq n 3 && match an with
      | [(_, c)] => decide (xlk K.2.2.2.2 x = some c) && !Nat.beq c 0
      | _ => false
    | .ireturn | .lreturn | .return_ => Nat.beq n 1
    | _ => false
def xtok (code : ByteArray) (K : xC) (tb : xT) : Bool := tb.all (fun q => decide (decode code q.1 = .ok (q.2.1, q.2.2.1)) && xok K q.1 q.2)
/-- renaming a callee's cells to its caller's places -/
def xrV (pl : List Nat) : Value → Value
  | .ref a => .ref ((xnth pl a).getD 0)
  | v => v
def xrE (pl : List Nat) : xE → xE
  | .inl a => .inl a
  | .inr (c, fs) => .inr (c, fs.map (xrV pl))
def xput (pl : List Nat) : List Nat → xH → xH → xH
  | p :: ps, e :: es, ws => xput pl ps es (ws.set p (xrE pl e))
  | _, _, ws => ws
def xsub (pl : List Nat) (wc ws : xH) : Prop := pl.map (xnth ws) = wc.map (fun e => some (xrE pl e))
def xnum (v : Option Value) : Prop := v = none ∨ (∃ x, v = some (.int x)) ∨ ∃ x, v = some (.long x)
def xsl : List Value → xL
  | [] => []
  | .long x :: t => some (.long x) :: none :: xsl t
  | .double x :: t => some (.double x) :: none :: xsl t
  | v :: t => some v :: xsl t
def xent (args : List Value) (n : Nat) : xL := xsl args ++ List.replicate (n - (xsl args).length) none
abbrev xPost : Type := Option Value → xH → Prop
/-- what a predicate of states must be closed under so that it holds at a method's entry -/
def xG1 (tb : xT) (G : xK) : Prop := ∀ (pc : Nat) (i : xI) (loc : xL) (st : List Value) (ws : xH) (k : xK), xlk tb pc = some i → (∀ pc' loc' st' ws', k pc' loc' st' ws' → G pc' loc' st' ws') → xstep i pc loc st ws k (G pc loc st ws) → G pc loc st ws
def xG2 (tb : xT) (ret : Option FieldType) (Post : xPost) (G : xK) : Prop :=
  (∀ (pc n : Nat) (an : List (Int32 × Nat)) (j : Int64) (loc : xL) (ws : xH) (x : Int32), xlk tb pc = some (.ireturn, n, an, j) → (ret = some .int ∨ (ret = some .boolean ∧ (x = 0 ∨ x = 1))) → Post (some (.int x)) ws → G pc loc [.int x] ws) ∧
  (∀ (pc n : Nat) (an : List (Int32 × Nat)) (j : Int64) (loc : xL) (ws : xH) (x : Int64), xlk tb pc = some (.lreturn, n, an, j) → ret = some .long → Post (some (.long x)) ws → G pc loc [.long x] ws) ∧
  ∀ (pc n : Nat) (an : List (Int32 × Nat)) (j : Int64) (loc : xL) (ws : xH), xlk tb pc = some (.return_, n, an, j) → ret = none → Post none ws → G pc loc [] ws
def xG3 (Ms : List xM) (tb : xT) (Cl : Nat → List Value → xH → xPost → Prop) (G : xK) : Prop :=
  ∀ (pc x n c : Nat) (M : xM) (v0 : Int32) (j : Int64) (loc : xL) (st rest : List Value) (ws : xH) (as : List Value) (pl : List Nat) (wc : xH) (PC : xPost), xnth Ms c = some M → xlk tb pc = some ((match M.2.2.2.2.2.2 with | true => .invokestatic x | false => .invokevirtual x), n, [(v0, c)], j) →
    st = (as.map (xrV pl)).reverse ++ rest → Nat.ble (xcat rest) 8 = true → va_nd pl = true → xsub pl wc ws → Cl c as wc PC → (∀ v wc', PC v wc' → wc'.length = wc.length → G (pc + 3) loc (v.toList ++ rest) (xput pl pl wc' ws)) → G pc loc st ws
/-- a method's contract, d frames deep: whatever is closed under its instructions holds at its entry -/
def xCt (Ms : List xM) : Nat → Nat → List Value → xH → xPost → Prop
  | 0, _, _, _, _ => False
  | d + 1, c, as, ws, Post => ∃ M : xM, xnth Ms c = some M ∧ (match M.2.2.2.2.2.2 with
      | true => (parseMethodDescriptor M.1.desc).map (fun q => q.parameters.length) = some as.length
      | false => ∃ (a ci : Nat) (fs : List Value) (r : List Value) (q : vw_C), as = .ref a :: r ∧ xnth ws a = some (.inr (ci, fs)) ∧ vwCl[ci]? = some q ∧ q.1 = M.1.cls ∧ (parseMethodDescriptor M.1.desc).map (fun q => q.parameters.length) = some r.length) ∧ Nat.ble (xsl as).length M.2.2.1 = true ∧
    ∀ G : xK, xG1 M.2.2.2.2.1 G → xG2 M.2.2.2.2.1 M.2.2.2.1 Post G → xG3 Ms M.2.2.2.2.1 (xCt Ms d) G → G 0 (xent as M.2.2.1) [] ws
theorem xwp_go {tb : xT} {G : xK} (hG : xG1 tb G) (stops : List Nat) : ∀ (f pc : Nat) (loc : xL) (st : List Value) (ws : xH), xwp tb stops G f pc loc st ws → G pc loc st ws := by
  intro f
  induction f with
  | zero => intro pc loc st ws h; exact h
  | succ f ih =>
    intro pc loc st ws h
    unfold xwp at h
    split at h
    · exact h.elim
    next i hi =>
      refine hG pc i loc st ws _ hi (fun pc' loc' st' ws' h' => ?_) h
      split at h'
      · exact h'
      · exact ih _ _ _ _ h'
end
section
/-! SOUNDNESS of the abstract machine: what it says of a method, the real machine does (Met). -/
def xcV (ad : Nat → Nat) : Value → Value
  | .ref a => .ref (ad a)
  | v => v
theorem xcV_cat (ad : Nat → Nat) (v : Value) : (xcV ad v).category = v.category := by cases v <;> rfl
def xcE (ad : Nat → Nat) (cI : ClassId) : xE → va_E
  | .inl (n, f) => .inl (cI, n, .inl f)
  | .inr (c, fs) => .inr (c, fs.map (xcV ad))
def xcH (ad : Nat → Nat) (cI : ClassId) : Nat → xH → va_W
  | _, [] => []
  | i, e :: t => (ad i, xcE ad cI e) :: xcH ad cI (i + 1) t
theorem xcH_get (ad : Nat → Nat) (cI : ClassId) : ∀ (ws : xH) (i k : Nat), (xcH ad cI i ws)[k]? = ws[k]?.map (fun e => (ad (i + k), xcE ad cI e))
  | [], _, _ => by simp [xcH]
  | e :: t, i, 0 => by simp [xcH]
  | e :: t, i, k + 1 => by
    simp only [xcH, List.getElem?_cons_succ]
    rw [xcH_get ad cI t (i + 1) k, show i + 1 + k = i + (k + 1) by omega]
theorem xcH_at {ad : Nat → Nat} {cI : ClassId} {ws : xH} {k : Nat} {e : xE} (h : xnth ws k = some e) : (xcH ad cI 0 ws)[k]? = some (ad k, xcE ad cI e) := by
  rw [xnth_eq] at h
  rw [xcH_get, h, Nat.zero_add]; rfl
theorem xcH_of {ad : Nat → Nat} {cI : ClassId} {ws : xH} {k : Nat} {q : Nat × va_E} (h : (xcH ad cI 0 ws)[k]? = some q) : ∃ e, xnth ws k = some e ∧ q = (ad k, xcE ad cI e) := by
  rw [xcH_get, Nat.zero_add] at h
  cases hw : ws[k]? with
  | none => rw [hw] at h; cases h
  | some e =>
    rw [hw] at h
    exact ⟨e, by rw [xnth_eq]; exact hw, (Option.some.inj h).symm⟩
theorem xcH_set (ad : Nat → Nat) (cI : ClassId) (e : xE) : ∀ (ws : xH) (i k : Nat), xcH ad cI i (ws.set k e) = (xcH ad cI i ws).set k (ad (i + k), xcE ad cI e)
  | [], _, _ => by simp [xcH]
  | a :: t, i, 0 => by simp [xcH]
  | a :: t, i, k + 1 => by
    simp only [xcH, List.set_cons_succ]
    rw [xcH_set ad cI e t (i + 1) k, show i + 1 + k = i + (k + 1) by omega]
/-- locals -/
def xRl (ad : Nat → Nat) (ls : Array Slot) (loc : xL) : Prop := ls.size = loc.length ∧ lv_wf ls ∧ ∀ (i : Nat) (v : Value), loc[i]? = some (some v) → ls[i]? = some (.val (xcV ad v))
def xlp (ad : Nat → Nat) : Nat → xL → List (Nat × Value)
  | _, [] => []
  | i, some v :: t => (i, xcV ad v) :: xlp ad (i + 1) t
  | i, none :: t => xlp ad (i + 1) t
theorem xlp_in (ad : Nat → Nat) : ∀ (loc : xL) (i j : Nat) (v : Value), loc[j]? = some (some v) → (i + j, xcV ad v) ∈ xlp ad i loc
  | [], _, _, _, h => by simp at h
  | some w :: t, i, 0, v, h => by
    simp only [List.getElem?_cons_zero, Option.some.injEq] at h
    subst h
    exact List.mem_cons_self
  | none :: t, i, 0, v, h => by simp at h
  | some w :: t, i, j + 1, v, h => by
    rw [List.getElem?_cons_succ] at h
    have := xlp_in ad t (i + 1) j v h
    rw [show i + 1 + j = i + (j + 1) by omega] at this
    exact List.mem_cons_of_mem _ this
  | none :: t, i, j + 1, v, h => by
    rw [List.getElem?_cons_succ] at h
    have := xlp_in ad t (i + 1) j v h
    rw [show i + 1 + j = i + (j + 1) by omega] at this
    exact this
theorem xlp_of (ad : Nat → Nat) : ∀ (loc : xL) (i : Nat) (q : Nat × Value), q ∈ xlp ad i loc → ∃ j v, q = (i + j, xcV ad v) ∧ loc[j]? = some (some v)
  | [], _, _, h => by cases h
  | some w :: t, i, q, h => by
    rcases List.mem_cons.mp h with h | h
    · exact ⟨0, w, by rw [h]; rfl, rfl⟩
    · obtain ⟨j, v, h1, h2⟩ := xlp_of ad t (i + 1) q h
      exact ⟨j + 1, v, by rw [h1, show i + 1 + j = i + (j + 1) by omega], by rw [List.getElem?_cons_succ]; exact h2⟩
  | none :: t, i, q, h => by
    obtain ⟨j, v, h1, h2⟩ := xlp_of ad t (i + 1) q h
    exact ⟨j + 1, v, by rw [h1, show i + 1 + j = i + (j + 1) by omega], by rw [List.getElem?_cons_succ]; exact h2⟩
theorem xRl.has {ad : Nat → Nat} {ls : Array Slot} {loc : xL} (h : xRl ad ls loc) : lv_has ls loc.length (xlp ad 0 loc) := by
  refine ⟨h.1, h.2.1, fun q hq => ?_⟩
  obtain ⟨j, v, rfl, h2⟩ := xlp_of ad loc 0 q hq
  rw [Nat.zero_add]
  exact h.2.2 j v h2
theorem xRl.at {ad : Nat → Nat} {ls : Array Slot} {loc : xL} (h : xRl ad ls loc) {i : Nat} {v : Value} (hi : xnth loc i = some (some v)) : ls[i]? = some (.val (xcV ad v)) := h.2.2 i v (by rw [← xnth_eq]; exact hi)
theorem xprev_spec {loc : xL} {i j : Nat} {w : Value} (h : xprev loc i = true) (hj : j + 1 = i) (hw : loc[j]? = some (some w)) : w.category = 1 := by
  subst hj
  simp only [xprev, xnth_eq, hw] at h
  exact Nat.eq_of_beq_eq_true h
theorem xst1_e {loc : xL} {i : Nat} {v : Value} {k : xL → Prop} (h : xst1 loc i v k) : xprev loc i = true ∧ i < loc.length ∧ k (loc.set i (some v)) := by
  unfold xst1 at h
  split at h
  next h1 h2 =>
    rw [xnth_eq] at h2
    exact ⟨h1, (List.getElem?_eq_some_iff.mp h2).1, h⟩
  next => exact h.elim
theorem xst2_e {loc : xL} {i : Nat} {v : Value} {k : xL → Prop} (h : xst2 loc i v k) : xprev loc i = true ∧ i + 1 < loc.length ∧ k ((loc.set i (some v)).set (i + 1) none) := by
  unfold xst2 at h
  split at h
  next h1 h2 =>
    rw [xnth_eq] at h2
    exact ⟨h1, (List.getElem?_eq_some_iff.mp h2).1, h⟩
  next => exact h.elim
theorem xRl.st1 {ad : Nat → Nat} {ls' : Array Slot} {loc : xL} {i : Nat} {v : Value} (hp : xprev loc i = true) (hi : i < loc.length)
    (h : lv_has ls' loc.length ((i, xcV ad v) :: (xlp ad 0 loc).filter (fun q => !(q.1 == i) && !(q.1 + 1 == i && q.2.category == 2)))) : xRl ad ls' (loc.set i (some v)) := by
  refine ⟨by rw [List.length_set]; exact h.1, h.2.1, fun j w hw => ?_⟩
  by_cases hj : j = i
  · subst hj
    rw [List.getElem?_set_self hi] at hw
    cases hw
    exact h.2.2 (j, xcV ad v) List.mem_cons_self
  · rw [List.getElem?_set_ne (Ne.symm hj)] at hw
    have h1 := xlp_in ad loc 0 j w hw
    rw [Nat.zero_add] at h1
    refine h.2.2 (j, xcV ad w) (List.mem_cons_of_mem _ (List.mem_filter.mpr ⟨h1, ?_⟩))
    have e1 : (j == i) = false := by simpa using hj
    by_cases h2 : j + 1 = i
    · have := xprev_spec hp h2 hw
      simp [e1, xcV_cat, this]
    · simp [e1, h2]
theorem xRl.st2 {ad : Nat → Nat} {ls' : Array Slot} {loc : xL} {i : Nat} {v : Value} (hp : xprev loc i = true) (hi : i + 1 < loc.length)
    (h : lv_has ls' loc.length ((i, xcV ad v) :: (xlp ad 0 loc).filter (fun q => !(q.1 == i) && (!(q.1 == i + 1) && !(q.1 + 1 == i && q.2.category == 2))))) : xRl ad ls' ((loc.set i (some v)).set (i + 1) none) := by
  refine ⟨by rw [List.length_set, List.length_set]; exact h.1, h.2.1, fun j w hw => ?_⟩
  by_cases hj1 : j = i + 1
  · subst hj1
    rw [List.getElem?_set_self (by rw [List.length_set]; exact hi)] at hw
    cases hw
  rw [List.getElem?_set_ne (Ne.symm hj1)] at hw
  by_cases hj : j = i
  · subst hj
    rw [List.getElem?_set_self (by omega)] at hw
    cases hw
    exact h.2.2 (j, xcV ad v) List.mem_cons_self
  · rw [List.getElem?_set_ne (Ne.symm hj)] at hw
    have h1 := xlp_in ad loc 0 j w hw
    rw [Nat.zero_add] at h1
    refine h.2.2 (j, xcV ad w) (List.mem_cons_of_mem _ (List.mem_filter.mpr ⟨h1, ?_⟩))
    have e1 : (j == i) = false := by simpa using hj
    have e2 : (j == i + 1) = false := by simpa using hj1
    by_cases h2 : j + 1 = i
    · have := xprev_spec hp h2 hw
      simp [e1, e2, xcV_cat, this]
    · simp [e1, e2, h2]
/-! eliminations of the step's words -/
theorem xii_e {st : List Value} {f : Int32 → Int32 → List Value → Prop} (h : xii st f) : ∃ x y r, st = .int y :: .int x :: r ∧ f x y r := by
  unfold xii at h; split at h
  · exact ⟨_, _, _, rfl, h⟩
  · exact h.elim
theorem xll_e {st : List Value} {f : Int64 → Int64 → List Value → Prop} (h : xll st f) : ∃ x y r, st = .long y :: .long x :: r ∧ f x y r := by
  unfold xll at h; split at h
  · exact ⟨_, _, _, rfl, h⟩
  · exact h.elim
theorem xiload_e {loc : xL} {j : Nat} {f : Value → Prop} (h : xiload loc j f) : ∃ x, xnth loc j = some (some (.int x)) ∧ f (.int x) := by
  unfold xiload at h; split at h
  next h1 => exact ⟨_, h1, h⟩
  · exact h.elim
theorem xaload_e {loc : xL} {j : Nat} {f : Value → Prop} (h : xaload loc j f) : ∃ x, xnth loc j = some (some (.ref x)) ∧ f (.ref x) := by
  unfold xaload at h; split at h
  next h1 => exact ⟨_, h1, h⟩
  · exact h.elim
theorem xlload_e {loc : xL} {j : Nat} {f : Value → Prop} (h : xlload loc j f) : ∃ x, xnth loc j = some (some (.long x)) ∧ f (.long x) := by
  unfold xlload at h; split at h
  next h1 => exact ⟨_, h1, h⟩
  · exact h.elim
theorem xistore_e {loc : xL} {st : List Value} {j : Nat} {f : xL → List Value → Prop} (h : xistore loc st j f) : ∃ x r, st = .int x :: r ∧ xprev loc j = true ∧ j < loc.length ∧ f (loc.set j (some (.int x))) r := by
  unfold xistore at h; split at h
  · exact ⟨_, _, rfl, xst1_e h⟩
  · exact h.elim
theorem xlstore_e {loc : xL} {st : List Value} {j : Nat} {f : xL → List Value → Prop} (h : xlstore loc st j f) : ∃ x r, st = .long x :: r ∧ xprev loc j = true ∧ j + 1 < loc.length ∧ f ((loc.set j (some (.long x))).set (j + 1) none) r := by
  unfold xlstore at h; split at h
  · exact ⟨_, _, rfl, xst2_e h⟩
  · exact h.elim
theorem xcon_e {an : List (Int32 × Nat)} {f : Int32 → Prop} (h : xcon an f) : ∃ v t r, an = (v, t) :: r ∧ f v := by
  unfold xcon at h; split at h
  · exact ⟨_, _, _, rfl, h⟩
  · exact h.elim
theorem xtgt_e {an : List (Int32 × Nat)} {f : Nat → Prop} (h : xtgt an f) : ∃ v t r, an = (v, t) :: r ∧ f t := by
  unfold xtgt at h; split at h
  · exact ⟨_, _, _, rfl, h⟩
  · exact h.elim
theorem xgetf_e {an : List (Int32 × Nat)} {st : List Value} {ws : xH} {f : Value → List Value → Prop} (h : xgetf an st ws f) : ∃ v0 ci v1 sl rr a r fs v, an = (v0, ci) :: (v1, sl) :: rr ∧ st = .ref a :: r ∧ xnth ws a = some (.inr (ci, fs)) ∧ xnth fs sl = some v ∧ f v r := by
  unfold xgetf at h; split at h
  · split at h
    next h1 =>
      split at h
      next h2 h3 =>
        have e := Nat.eq_of_beq_eq_true h2
        subst e
        exact ⟨_, _, _, _, _, _, _, _, _, rfl, rfl, h1, h3, h⟩
      · exact h.elim
    · exact h.elim
  · exact h.elim
theorem xputf_e {an : List (Int32 × Nat)} {st : List Value} {ws : xH} {f : List Value → xH → Prop} (h : xputf an st ws f) : ∃ v0 ci v1 sl v2 ty rr x a r fs w, an = (v0, ci) :: (v1, sl) :: (v2, ty) :: rr ∧ st = .int x :: .ref a :: r ∧ xnth ws a = some (.inr (ci, fs)) ∧ xnth fs sl = some w ∧ (ty = 0 ∨ (ty = 1 ∧ (x = 0 ∨ x = 1))) ∧ f r (ws.set a (.inr (ci, fs.set sl (.int x)))) := by
  unfold xputf at h; split at h
  · split at h
    next h1 =>
      split at h
      next h2 h3 =>
        have e := Nat.eq_of_beq_eq_true h2
        subst e
        exact ⟨_, _, _, _, _, _, _, _, _, _, _, _, rfl, rfl, h1, h3, Or.inl rfl, h⟩
      next h2 h3 =>
        have e := Nat.eq_of_beq_eq_true h2
        subst e
        exact ⟨_, _, _, _, _, _, _, _, _, _, _, _, rfl, rfl, h1, h3, Or.inr ⟨rfl, h.1⟩, h.2⟩
      · exact h.elim
    · exact h.elim
  · exact h.elim
theorem xiald_e {st : List Value} {ws : xH} {f : Value → List Value → Prop} (h : xiald st ws f) : ∃ i a r n g, st = .int i :: .ref a :: r ∧ xnth ws a = some (.inl (n, g)) ∧ vp_in i n ∧ f (.int (g i.toNatClampNeg)) r := by
  unfold xiald at h; split at h
  · split at h
    next h1 => exact ⟨_, _, _, _, _, rfl, h1, h.1, h.2⟩
    · exact h.elim
  · exact h.elim
theorem xiast_e {st : List Value} {ws : xH} {f : List Value → xH → Prop} (h : xiast st ws f) : ∃ x i a r n g, st = .int x :: .int i :: .ref a :: r ∧ xnth ws a = some (.inl (n, g)) ∧ vp_in i n ∧ f r (ws.set a (.inl (n, upd g i.toNatClampNeg x))) := by
  unfold xiast at h; split at h
  · split at h
    next h1 => exact ⟨_, _, _, _, _, _, rfl, h1, h.1, h.2⟩
    · exact h.elim
  · exact h.elim
theorem xalen_e {st : List Value} {ws : xH} {f : Value → List Value → Prop} (h : xalen st ws f) : ∃ a r n g, st = .ref a :: r ∧ xnth ws a = some (.inl (n, g)) ∧ f (.int (Int32.ofNat n)) r := by
  unfold xalen at h; split at h
  · split at h
    next h1 => exact ⟨_, _, _, _, rfl, h1, h⟩
    · exact h.elim
  · exact h.elim
theorem xdup_e {st : List Value} {f : List Value → Prop} (h : xdup st f) : ∃ v r, st = v :: r ∧ v.category = 1 ∧ f (v :: v :: r) := by
  unfold xdup at h; split at h
  · exact ⟨_, _, rfl, rfl, h⟩
  · exact ⟨_, _, rfl, rfl, h⟩
  · exact h.elim
theorem xdup2_e {st : List Value} {f : List Value → Prop} (h : xdup2 st f) : ∃ x y r, st = .int x :: .ref y :: r ∧ f (.int x :: .ref y :: .int x :: .ref y :: r) := by
  unfold xdup2 at h; split at h
  · exact ⟨_, _, _, rfl, h⟩
  · exact h.elim
theorem xcnd_e {an : List (Int32 × Nat)} {st : List Value} {f : Int32 → List Value → Nat → Prop} (h : xcnd an st f) : ∃ v t rr x r, an = (v, t) :: rr ∧ st = .int x :: r ∧ f x r t := by
  unfold xcnd at h; split at h
  · exact ⟨_, _, _, _, _, rfl, rfl, h⟩
  · exact h.elim
theorem xcnd2_e {an : List (Int32 × Nat)} {st : List Value} {f : Int32 → Int32 → List Value → Nat → Prop} (h : xcnd2 an st f) : ∃ v t rr x y r, an = (v, t) :: rr ∧ st = .int y :: .int x :: r ∧ f x y r t := by
  unfold xcnd2 at h; split at h
  · exact ⟨_, _, _, _, _, _, rfl, rfl, h⟩
  · exact h.elim
theorem xswi_e {an : List (Int32 × Nat)} {st : List Value} {f : Int32 → List Value → Nat → List (Int32 × Nat) → Prop} (h : xswi an st f) : ∃ v d cs x r, an = (v, d) :: cs ∧ st = .int x :: r ∧ f x r d cs := by
  unfold xswi at h; split at h
  · exact ⟨_, _, _, _, _, rfl, rfl, h⟩
  · exact h.elim
theorem xi2l_e {st : List Value} {f : List Value → Prop} (h : xi2l st f) : ∃ x r, st = .int x :: r ∧ f (.long x.toInt64 :: r) := by
  unfold xi2l at h; split at h
  · exact ⟨_, _, rfl, h⟩
  · exact h.elim
theorem xineg_e {st : List Value} {f : List Value → Prop} (h : xineg st f) : ∃ x r, st = .int x :: r ∧ f (.int (-x) :: r) := by
  unfold xineg at h; split at h
  · exact ⟨_, _, rfl, h⟩
  · exact h.elim
theorem xsw_e {x : Int32} {k : Nat → Prop} {d : Nat} : ∀ {cs : List (Int32 × Nat)}, xsw x k d cs → (∃ (i : Nat) (key : Int32) (t : Nat), cs[i]? = some (key, t) ∧ x = key ∧ k t ∧ ∀ (j : Nat) (key' : Int32) (t' : Nat), j < i → cs[j]? = some (key', t') → ¬ x = key') ∨ ((∀ q ∈ cs, ¬ x = q.1) ∧ k d)
  | [], h => Or.inr ⟨fun _ hq => by (cases hq), h⟩
  | (key, t) :: r, h => by
    by_cases hx : x = key
    · exact Or.inl ⟨0, key, t, rfl, hx, h.1 hx, fun j _ _ hj => absurd hj (Nat.not_lt_zero j)⟩
    · rcases xsw_e (h.2 hx) with ⟨i, key', t', h1, h2, h3, h4⟩ | ⟨h1, h2⟩
      · refine Or.inl ⟨i + 1, key', t', h1, h2, h3, fun j k2 t2 hj h5 => ?_⟩
        cases j with
        | zero =>
          rw [List.getElem?_cons_zero] at h5
          cases h5
          exact hx
        | succ j => exact h4 j k2 t2 (by omega) h5
      · refine Or.inr ⟨fun q hq => ?_, h2⟩
        rcases List.mem_cons.mp hq with rfl | hq
        · exact hx
        · exact h1 q hq
end
section
/-! one instruction of the abstract machine is one of the real machine's -/
def xFOk (Ts nl : List Cond) (own : String) (idx ci sl ty : Nat) : Prop := ∃ (C : String) (T : u_T) (N : Nat) (ty0 : Nat → FieldType), vwCl[ci]? = some (C, T, N) ∧ sl < N ∧ (∀ w ∈ u_ws C T N, w ∈ Ts) ∧ (∀ k, k < N → parseFieldDescriptor (T k).2.2.1 = some (ty0 k)) ∧ (∀ a, a < N → ∀ b, b < N → a ≠ b → (T a).2.1 ≠ (T b).2.1) ∧
  (Cond.fieldLink own idx (T sl).1 (T sl).2.1 (T sl).2.2.1 ∈ Ts ∨ ∃ host, Cond.fieldLinkNest own idx (T sl).1 (T sl).2.1 (T sl).2.2.1 host ∈ nl) ∧ (ty = 0 → (T sl).2.2.2 = false ∧ ty0 sl = .int) ∧ (ty = 1 → (T sl).2.2.2 = false ∧ ty0 sl = .boolean)
def xCOk (Ts nl : List Cond) (Ms : List xM) (K : xC) : Prop := (∀ q ∈ K.2.1, xFOk Ts nl K.1 q.1 q.2.1 q.2.2.1 q.2.2.2) ∧ (∀ q ∈ K.2.2.1, Cond.constant K.1 q.1 q.2 ∈ Ts) ∧ (∀ q ∈ K.2.2.2.1, Cond.constantLong K.1 q.1 q.2 ∈ Ts) ∧
  (∀ q ∈ K.2.2.2.2, (q.2 = 0 → Cond.methodLink K.1 q.1 Lib.Math.min.name ∈ Ts ∧ Cond.static Lib.Math.min.name ∈ Ts ∧ Cond.initialized "java/lang/Math" ∈ Ts ∧ Cond.code Lib.Math.min.name Lib.Math.min.code 2 (some .int) ∈ Ts) ∧ (q.2 ≠ 0 → ∀ M, xnth Ms q.2 = some M → Cond.methodLink K.1 q.1 M.1 ∈ Ts))
section XS
variable {p : Program} {l : Launch} {e : Env} {R : Room} {s : State} {m : MethodId} {args : Array Value} {below : List Frame} {meth : Method} {c : Code} {Q : State → Prop} {D : va_G} {A : Nat → Prop} {ad : Nat → Nat} {cI : ClassId} {N0 : Nat}
variable {Ts nl : List Cond} {Ms : List xM} {K : xC} {cc : ByteArray}
/-- the real machine's goal behind a state of the abstract one -/
def xGW (p : Program) (l : Launch) (e : Env) (R : Room) (s : State) (m : MethodId) (args : Array Value) (below : List Frame) (meth : Method) (c : Code) (Q : State → Prop) (D : va_G) (A : Nat → Prop) (ad : Nat → Nat) (cI : ClassId) (N0 nL : Nat) : xK := fun pc loc st ws =>
  ws.length = N0 → loc.length = nL → ∀ (ls : Array Slot) (H : Heap) (locs : List Loc), xRl ad ls loc → va_P D vwCl (xcH ad cI 0 ws) H → va_D A (xcH ad cI 0 ws) → va_S A s.heap H locs → W p l e R s m args below meth c H locs 0 0 Q (F0 m pc ls (st.map (xcV ad)))
theorem xb2 {a b : Bool} (h : (a && b) = true) : a = true ∧ b = true := by simpa using h
theorem xn {n k : Nat} (h : Nat.beq n k = true) : n = k := Nat.eq_of_beq_eq_true h
theorem xcmp_0 {p : Program} {l : Launch} {e : Env} {R : Room} {s : State} {m : MethodId} {args : Array Value} {below : List Frame} {meth : Method} {c : Code} {H : Heap} {locs : List Loc} {cells slots : Nat} {Q : State → Prop} {pc : Nat} {ls : Array Slot} {rest : List Value} (hx : p.tables.exec = Jvm.exec) (hb : c.code = cc) {cd : ClassFile.Cond} {x : Int32} {off : Int} {tgt : Nat} {a b : Prop} (hdg : decode cc pc = .ok (.ifCond cd off, 3)) (ht : (pc : Int) + off = (tgt : Int)) (h : xcmp cd x 0 a b)
    (ka : a → W p l e R s m args below meth c H locs cells slots Q (F0 m tgt ls rest)) (kb : b → W p l e R s m args below meth c H locs cells slots Q (F0 m (pc + 3) ls rest)) : W p l e R s m args below meth c H locs cells slots Q (F0 m pc ls (.int x :: rest)) := by
  cases cd
  · exact lv_if_eq hx hb hdg ht (fun q => ka (h.1 q)) (fun q => kb (h.2 q))
  · exact lv_if_ne hx hb hdg ht (fun q => ka (h.1 q)) (fun q => kb (h.2 q))
  · exact lv_if_lt hx hb hdg ht (fun q => ka (h.1 q)) (fun q => kb (h.2 q))
  · first | exact lv_if_ge hx hb hdg ht (fun q => ka (h.1 q)) (fun q => kb (h.2 q)) | exact lv_if_le hx hb hdg ht (fun q => ka (h.1 q)) (fun q => kb (h.2 q))
  · first | exact lv_if_gt hx hb hdg ht (fun q => ka (h.1 q)) (fun q => kb (h.2 q)) | exact lv_if_ge hx hb hdg ht (fun q => ka (h.1 q)) (fun q => kb (h.2 q))
  · first | exact lv_if_le hx hb hdg ht (fun q => ka (h.1 q)) (fun q => kb (h.2 q)) | exact lv_if_gt hx hb hdg ht (fun q => ka (h.1 q)) (fun q => kb (h.2 q))
theorem xcmp_2 {p : Program} {l : Launch} {e : Env} {R : Room} {s : State} {m : MethodId} {args : Array Value} {below : List Frame} {meth : Method} {c : Code} {H : Heap} {locs : List Loc} {cells slots : Nat} {Q : State → Prop} {pc : Nat} {ls : Array Slot} {rest : List Value} (hx : p.tables.exec = Jvm.exec) (hb : c.code = cc) {cd : ClassFile.Cond} {x y : Int32} {off : Int} {tgt : Nat} {a b : Prop} (hdg : decode cc pc = .ok (.if_icmp cd off, 3)) (ht : (pc : Int) + off = (tgt : Int)) (h : xcmp cd x y a b)
    (ka : a → W p l e R s m args below meth c H locs cells slots Q (F0 m tgt ls rest)) (kb : b → W p l e R s m args below meth c H locs cells slots Q (F0 m (pc + 3) ls rest)) : W p l e R s m args below meth c H locs cells slots Q (F0 m pc ls (.int y :: .int x :: rest)) := by
  cases cd
  · exact lv_icmp_eq hx hb hdg ht (fun q => ka (h.1 q)) (fun q => kb (h.2 q))
  · exact lv_icmp_ne hx hb hdg ht (fun q => ka (h.1 q)) (fun q => kb (h.2 q))
  · exact lv_icmp_lt hx hb hdg ht (fun q => ka (h.1 q)) (fun q => kb (h.2 q))
  · first | exact lv_icmp_ge hx hb hdg ht (fun q => ka (h.1 q)) (fun q => kb (h.2 q)) | exact lv_icmp_le hx hb hdg ht (fun q => ka (h.1 q)) (fun q => kb (h.2 q))
  · first | exact lv_icmp_gt hx hb hdg ht (fun q => ka (h.1 q)) (fun q => kb (h.2 q)) | exact lv_icmp_ge hx hb hdg ht (fun q => ka (h.1 q)) (fun q => kb (h.2 q))
  · first | exact lv_icmp_le hx hb hdg ht (fun q => ka (h.1 q)) (fun q => kb (h.2 q)) | exact lv_icmp_gt hx hb hdg ht (fun q => ka (h.1 q)) (fun q => kb (h.2 q))
theorem xlook : ∀ {ps : List (Int × Int)} {cs : List (Int32 × Nat)} {pc : Nat} {d : Int} {x : Int32}, cs.map (fun q => (q.1.toInt, (q.2 : Int))) = ps.map (fun q => (q.1, (pc : Int) + q.2)) → ∀ {dt : Nat}, (pc : Int) + d = (dt : Int) → ∀ {k : Nat → Prop}, xsw x k dt cs → ∃ t : Nat, (pc : Int) + Op.lookupswitch.offset ps d x.toInt = (t : Int) ∧ k t
  | [], [], pc, d, x, _, dt, hd, k, hk => ⟨dt, by simpa [Op.lookupswitch.offset] using hd, hk⟩
  | [], _ :: _, _, _, _, h, _, _, _, _ => by simp at h
  | _ :: _, [], _, _, _, h, _, _, _, _ => by simp at h
  | (a, o) :: ps, (key, t) :: cs, pc, d, x, h, dt, hd, k, hk => by
    simp only [List.map_cons, List.cons.injEq, Prod.mk.injEq] at h
    obtain ⟨⟨h1, h2⟩, h3⟩ := h
    by_cases hx : x = key
    · refine ⟨t, ?_, hk.1 hx⟩
      rw [Op.lookupswitch.offset_cons, if_pos (by rw [hx, h1]), h2]
    · obtain ⟨t', g1, g2⟩ := xlook h3 hd (hk.2 hx)
      exact ⟨t', by rw [lv_osw hx h1]; exact g1, g2⟩

set_option maxHeartbeats 4000000 in
theorem xstep_ok {nL : Nat} (hx : p.tables.exec = Jvm.exec) (hb : c.code = cc) (hml : c.maxLocals = nL) (hown : s.vm.findClass K.1 = some m.cls) (hts : ∀ w ∈ Ts, w.before args s = true) (hN : ∀ w ∈ nl, w.before args s = true) (hnl : ∀ w ∈ nl, ∃ a i b n d h, w = .fieldLinkNest a i b n d h) (hK : va_K D vwCl [(cI, .int)] s) (hC : xCOk Ts nl Ms K) (hfr : 1 ≤ R.frames) (hlo : 21 ≤ R.locals)
    {pc : Nat} {i : xI} {loc : xL} {st : List Value} {ws : xH} {k : xK} (hi : decode cc pc = .ok (i.1, i.2.1)) (hok : xok K pc i = true) (hk : ∀ pc' loc' st' ws', k pc' loc' st' ws' → xGW p l e R s m args below meth c Q D A ad cI N0 nL pc' loc' st' ws') {dflt : Prop} (hd : dflt → xGW p l e R s m args below meth c Q D A ad cI N0 nL pc loc st ws) (h : xstep i pc loc st ws k dflt) : xGW p l e R s m args below meth c Q D A ad cI N0 nL pc loc st ws := by
  obtain ⟨op, n, an, jl⟩ := i
  cases op with
  | aload_n j =>
    obtain rfl : n = 1 := xn hok
    dsimp only [xstep] at h
    obtain ⟨x, h1, h⟩ := xaload_e h
    exact fun hn hm ls H locs hl hP hD hS => lv_aload_n hx hb hi rfl (hl.at h1) (hk _ _ _ _ h hn hm ls H locs hl hP hD hS)
  | aload j =>
    obtain rfl : n = 2 := xn hok
    dsimp only [xstep] at h
    obtain ⟨x, h1, h⟩ := xaload_e h
    exact fun hn hm ls H locs hl hP hD hS => lv_aload hx hb hi (hl.at h1) (hk _ _ _ _ h hn hm ls H locs hl hP hD hS)
  | iload_n j =>
    obtain rfl : n = 1 := xn hok
    dsimp only [xstep] at h
    obtain ⟨x, h1, h⟩ := xiload_e h
    exact fun hn hm ls H locs hl hP hD hS => lv_iload_n hx hb hi rfl (hl.at h1) (hk _ _ _ _ h hn hm ls H locs hl hP hD hS)
  | iload j =>
    obtain rfl : n = 2 := xn hok
    dsimp only [xstep] at h
    obtain ⟨x, h1, h⟩ := xiload_e h
    exact fun hn hm ls H locs hl hP hD hS => lv_iload hx hb hi (hl.at h1) (hk _ _ _ _ h hn hm ls H locs hl hP hD hS)
  | lload_n j =>
    obtain rfl : n = 1 := xn hok
    dsimp only [xstep] at h
    obtain ⟨x, h1, h⟩ := xlload_e h
    exact fun hn hm ls H locs hl hP hD hS => lv_lload_n hx hb hi rfl (hl.at h1) (hk _ _ _ _ h hn hm ls H locs hl hP hD hS)
  | lload j =>
    obtain rfl : n = 2 := xn hok
    dsimp only [xstep] at h
    obtain ⟨x, h1, h⟩ := xlload_e h
    exact fun hn hm ls H locs hl hP hD hS => lv_lload hx hb hi (hl.at h1) (hk _ _ _ _ h hn hm ls H locs hl hP hD hS)
  | istore_n j =>
    obtain rfl : n = 1 := xn hok
    dsimp only [xstep] at h
    obtain ⟨x, r, rfl, h1, h2, h⟩ := xistore_e h
    exact fun hn hm ls H locs hl hP hD hS => lv_istore_n hx hb hi rfl hl.has h2 rfl (fun ls' hl' => hk _ _ _ _ h hn (by rw [List.length_set]; exact hm) ls' H locs (xRl.st1 (v := .int x) h1 h2 hl') hP hD hS)
  | istore j =>
    obtain rfl : n = 2 := xn hok
    dsimp only [xstep] at h
    obtain ⟨x, r, rfl, h1, h2, h⟩ := xistore_e h
    exact fun hn hm ls H locs hl hP hD hS => lv_istore hx hb hi hl.has h2 rfl (fun ls' hl' => hk _ _ _ _ h hn (by rw [List.length_set]; exact hm) ls' H locs (xRl.st1 (v := .int x) h1 h2 hl') hP hD hS)
  | lstore_n j =>
    obtain rfl : n = 1 := xn hok
    dsimp only [xstep] at h
    obtain ⟨x, r, rfl, h1, h2, h⟩ := xlstore_e h
    exact fun hn hm ls H locs hl hP hD hS => lv_lstore_n hx hb hi rfl hl.has h2 rfl (fun ls' hl' => hk _ _ _ _ h hn (by rw [List.length_set, List.length_set]; exact hm) ls' H locs (xRl.st2 (v := .long x) h1 h2 hl') hP hD hS)
  | lstore j =>
    obtain rfl : n = 2 := xn hok
    dsimp only [xstep] at h
    obtain ⟨x, r, rfl, h1, h2, h⟩ := xlstore_e h
    exact fun hn hm ls H locs hl hP hD hS => lv_lstore hx hb hi hl.has h2 rfl (fun ls' hl' => hk _ _ _ _ h hn (by rw [List.length_set, List.length_set]; exact hm) ls' H locs (xRl.st2 (v := .long x) h1 h2 hl') hP hD hS)
  | iinc j v =>
    obtain ⟨h0, hok⟩ := xb2 hok
    obtain rfl : n = 3 := xn h0
    dsimp only [xstep] at h
    split at h
    next x hx0 =>
      obtain ⟨w, t, r, rfl, h'⟩ := xcon_e h
      obtain ⟨h1, h2, h3⟩ := xst1_e h'
      have hv : Int32.ofInt v = w := of_decide_eq_true hok
      subst hv
      intro hn hm ls H locs hl hP hD hS
      have h4 := xlp_in ad loc 0 j _ (by rw [← xnth_eq]; exact hx0)
      rw [Nat.zero_add] at h4
      obtain ⟨q, hq⟩ := List.getElem?_of_mem h4
      exact lv_iinc hx hb hi hl.has hq rfl h2 rfl (fun ls' hl' => hk _ _ _ _ h3 hn (by rw [List.length_set]; exact hm) ls' H locs (xRl.st1 (v := .int (x + Int32.ofInt v)) h1 h2 hl') hP hD hS)
    · exact h.elim
  | iconst v =>
    obtain ⟨h0, hok⟩ := xb2 hok
    obtain rfl : n = 1 := xn h0
    dsimp only [xstep] at h
    obtain ⟨w, t, r, rfl, h⟩ := xcon_e h
    exact fun hn hm ls H locs hl hP hD hS => lv_iconst hx hb hi (of_decide_eq_true hok) (hk _ _ _ _ h hn hm ls H locs hl hP hD hS)
  | bipush v =>
    obtain ⟨h0, hok⟩ := xb2 hok
    obtain rfl : n = 2 := xn h0
    dsimp only [xstep] at h
    obtain ⟨w, t, r, rfl, h⟩ := xcon_e h
    exact fun hn hm ls H locs hl hP hD hS => lv_bipush hx hb hi (of_decide_eq_true hok) (hk _ _ _ _ h hn hm ls H locs hl hP hD hS)
  | sipush v =>
    obtain ⟨h0, hok⟩ := xb2 hok
    obtain rfl : n = 3 := xn h0
    dsimp only [xstep] at h
    obtain ⟨w, t, r, rfl, h⟩ := xcon_e h
    exact fun hn hm ls H locs hl hP hD hS => lv_sipush hx hb hi (of_decide_eq_true hok) (hk _ _ _ _ h hn hm ls H locs hl hP hD hS)
  | ldc v =>
    obtain ⟨h0, hok⟩ := xb2 hok
    obtain rfl : n = 2 := xn h0
    dsimp only [xstep] at h
    obtain ⟨w, t, r, rfl, h⟩ := xcon_e h
    exact fun hn hm ls H locs hl hP hD hS => lv_ldc hx hb hown (hts _ (hC.2.1 _ (xlk_mem (of_decide_eq_true hok)))) hi (hk _ _ _ _ h hn hm ls H locs hl hP hD hS)
  | ldc_w v =>
    obtain ⟨h0, hok⟩ := xb2 hok
    obtain rfl : n = 3 := xn h0
    dsimp only [xstep] at h
    obtain ⟨w, t, r, rfl, h⟩ := xcon_e h
    exact fun hn hm ls H locs hl hP hD hS => lv_ldcw hx hb hown (hts _ (hC.2.1 _ (xlk_mem (of_decide_eq_true hok)))) hi (hk _ _ _ _ h hn hm ls H locs hl hP hD hS)
  | lconst v =>
    obtain ⟨h0, hok⟩ := xb2 hok
    obtain rfl : n = 1 := xn h0
    dsimp only [xstep] at h
    exact fun hn hm ls H locs hl hP hD hS => lv_lconst hx hb hi (of_decide_eq_true hok) (hk _ _ _ _ h hn hm ls H locs hl hP hD hS)
  | ldc2_w v =>
    obtain ⟨h0, hok⟩ := xb2 hok
    obtain rfl : n = 3 := xn h0
    dsimp only [xstep] at h
    exact fun hn hm ls H locs hl hP hD hS => lv_ldc2 hx hb hown (hts _ (hC.2.2.1 _ (xlk_mem (of_decide_eq_true hok)))) hi (hk _ _ _ _ h hn hm ls H locs hl hP hD hS)
  | iadd =>
    obtain rfl : n = 1 := xn hok
    dsimp only [xstep] at h
    obtain ⟨x, y, r, rfl, h⟩ := xii_e h
    exact fun hn hm ls H locs hl hP hD hS => lv_iadd hx hb hi (hk _ _ _ _ h hn hm ls H locs hl hP hD hS)
  | isub =>
    obtain rfl : n = 1 := xn hok
    dsimp only [xstep] at h
    obtain ⟨x, y, r, rfl, h⟩ := xii_e h
    exact fun hn hm ls H locs hl hP hD hS => lv_isub hx hb hi (hk _ _ _ _ h hn hm ls H locs hl hP hD hS)
  | imul =>
    obtain rfl : n = 1 := xn hok
    dsimp only [xstep] at h
    obtain ⟨x, y, r, rfl, h⟩ := xii_e h
    exact fun hn hm ls H locs hl hP hD hS => lv_imul hx hb hi (hk _ _ _ _ h hn hm ls H locs hl hP hD hS)
  | iand =>
    obtain rfl : n = 1 := xn hok
    dsimp only [xstep] at h
    obtain ⟨x, y, r, rfl, h⟩ := xii_e h
    exact fun hn hm ls H locs hl hP hD hS => lv_iand hx hb hi (hk _ _ _ _ h hn hm ls H locs hl hP hD hS)
  | ior =>
    obtain rfl : n = 1 := xn hok
    dsimp only [xstep] at h
    obtain ⟨x, y, r, rfl, h⟩ := xii_e h
    exact fun hn hm ls H locs hl hP hD hS => lv_ior hx hb hi (hk _ _ _ _ h hn hm ls H locs hl hP hD hS)
  | ixor =>
    obtain rfl : n = 1 := xn hok
    dsimp only [xstep] at h
    obtain ⟨x, y, r, rfl, h⟩ := xii_e h
    exact fun hn hm ls H locs hl hP hD hS => lv_ixor hx hb hi (hk _ _ _ _ h hn hm ls H locs hl hP hD hS)
  | ishl =>
    obtain rfl : n = 1 := xn hok
    dsimp only [xstep] at h
    obtain ⟨x, y, r, rfl, h⟩ := xii_e h
    exact fun hn hm ls H locs hl hP hD hS => lv_ishl hx hb hi (hk _ _ _ _ h hn hm ls H locs hl hP hD hS)
  | ishr =>
    obtain rfl : n = 1 := xn hok
    dsimp only [xstep] at h
    obtain ⟨x, y, r, rfl, h⟩ := xii_e h
    exact fun hn hm ls H locs hl hP hD hS => lv_ishr hx hb hi (hk _ _ _ _ h hn hm ls H locs hl hP hD hS)
  | idiv =>
    obtain rfl : n = 1 := xn hok
    dsimp only [xstep] at h
    obtain ⟨x, y, r, rfl, h0, h⟩ := xii_e h
    exact fun hn hm ls H locs hl hP hD hS => lv_idiv hx hb hi h0 (hk _ _ _ _ h hn hm ls H locs hl hP hD hS)
  | irem =>
    obtain rfl : n = 1 := xn hok
    dsimp only [xstep] at h
    obtain ⟨x, y, r, rfl, h0, h⟩ := xii_e h
    exact fun hn hm ls H locs hl hP hD hS => lv_irem hx hb hi h0 (hk _ _ _ _ h hn hm ls H locs hl hP hD hS)
  | iushr =>
    obtain rfl : n = 1 := xn hok
    dsimp only [xstep] at h
    obtain ⟨x, y, r, rfl, h⟩ := xii_e h
    exact fun hn hm ls H locs hl hP hD hS => lv_iushr hx hb hi rfl (hk _ _ _ _ h hn hm ls H locs hl hP hD hS)
  | ineg =>
    obtain rfl : n = 1 := xn hok
    dsimp only [xstep] at h
    obtain ⟨x, r, rfl, h⟩ := xineg_e h
    exact fun hn hm ls H locs hl hP hD hS => lv_ineg hx hb hi (hk _ _ _ _ h hn hm ls H locs hl hP hD hS)
  | i2l =>
    obtain rfl : n = 1 := xn hok
    dsimp only [xstep] at h
    obtain ⟨x, r, rfl, h⟩ := xi2l_e h
    exact fun hn hm ls H locs hl hP hD hS => lv_i2l hx hb hi rfl (hk _ _ _ _ h hn hm ls H locs hl hP hD hS)
  | lsub =>
    obtain rfl : n = 1 := xn hok
    dsimp only [xstep] at h
    obtain ⟨x, y, r, rfl, h⟩ := xll_e h
    exact fun hn hm ls H locs hl hP hD hS => lv_lsub hx hb hi (hk _ _ _ _ h hn hm ls H locs hl hP hD hS)
  | lmul =>
    obtain rfl : n = 1 := xn hok
    dsimp only [xstep] at h
    obtain ⟨x, y, r, rfl, h⟩ := xll_e h
    exact fun hn hm ls H locs hl hP hD hS => lv_lmul hx hb hi (hk _ _ _ _ h hn hm ls H locs hl hP hD hS)
  | ldiv =>
    obtain rfl : n = 1 := xn hok
    dsimp only [xstep] at h
    obtain ⟨x, y, r, rfl, h0, h⟩ := xll_e h
    exact fun hn hm ls H locs hl hP hD hS => lv_ldiv hx hb hi h0 (hk _ _ _ _ h hn hm ls H locs hl hP hD hS)
  | lrem =>
    obtain rfl : n = 1 := xn hok
    dsimp only [xstep] at h
    obtain ⟨x, y, r, rfl, h0, h⟩ := xll_e h
    exact fun hn hm ls H locs hl hP hD hS => lv_lrem hx hb hi h0 (hk _ _ _ _ h hn hm ls H locs hl hP hD hS)
  | lcmp =>
    obtain rfl : n = 1 := xn hok
    dsimp only [xstep] at h
    obtain ⟨x, y, r, rfl, h⟩ := xll_e h
    exact fun hn hm ls H locs hl hP hD hS => W.lcmp hx hb hi (hk _ _ _ _ h hn hm ls H locs hl hP hD hS)
  | dup =>
    obtain rfl : n = 1 := xn hok
    dsimp only [xstep] at h
    obtain ⟨v, r, rfl, hc, h⟩ := xdup_e h
    exact fun hn hm ls H locs hl hP hD hS => lv_dup hx hb hi (by rw [xcV_cat]; exact hc) (hk _ _ _ _ h hn hm ls H locs hl hP hD hS)
  | dup2 =>
    obtain rfl : n = 1 := xn hok
    dsimp only [xstep] at h
    obtain ⟨x, y, r, rfl, h⟩ := xdup2_e h
    exact fun hn hm ls H locs hl hP hD hS => lv_dup2_11 hx hb hi rfl rfl (hk _ _ _ _ h hn hm ls H locs hl hP hD hS)
  | getfield j =>
    obtain ⟨h0, hok⟩ := xb2 hok
    obtain rfl : n = 3 := xn h0
    dsimp only [xstep] at h
    obtain ⟨v0, ci, v1, sl, rr, a, r, fs, v, rfl, rfl, h1, h2, h3⟩ := xgetf_e h
    cases rr with
    | nil => cases hok
    | cons q2 rr =>
      obtain ⟨v2, ty⟩ := q2
      obtain ⟨C, T, N, ty0, f1, f2, f3, f4, f5, f6, -, -⟩ := hC.1 _ (xlk_mem (of_decide_eq_true hok))
      intro hn hm ls H locs hl hP hD hS
      have hv : (fs.map (xcV ad))[sl]? = some (xcV ad v) := by rw [List.getElem?_map, ← xnth_eq, h2]; rfl
      rcases f6 with f6 | ⟨host, f6⟩
      · exact va_get hx hb hts f3 hown hK hP a (xcH_at h1) f1 sl f2 (hts _ f6) (fun _ z => z) hv hi (hk _ _ _ _ h3 hn hm ls H locs hl hP hD hS)
      · exact va_getN hx hb hts f3 hown hK hP a (xcH_at h1) f1 sl f2 (hN _ f6) (fun _ z => z) hv hi (hk _ _ _ _ h3 hn hm ls H locs hl hP hD hS)
  | putfield j =>
    obtain ⟨h0, hok⟩ := xb2 hok
    obtain rfl : n = 3 := xn h0
    dsimp only [xstep] at h
    obtain ⟨v0, ci, v1, sl, v2, ty, rr, x, a, r, fs, w, rfl, rfl, h1, h2, h3, h⟩ := xputf_e h
    obtain ⟨C, T, N, ty0, f1, f2, f3, f4, f5, f6, f7, f8⟩ := hC.1 _ (xlk_mem (of_decide_eq_true hok))
    intro hn hm ls H locs hl hP hD hS
    have hsl : sl < (fs.map (xcV ad)).length := by
      rw [List.length_map]
      rw [xnth_eq] at h2
      exact (List.getElem?_eq_some_iff.mp h2).1
    have hty : (T sl).2.2.2 = false ∧ ∃ ty : FieldType, parseFieldDescriptor (T sl).2.2.1 = some ty ∧ narrow ty (.int x) = .int x ∧ fits ty (.int x) = true := by
      rcases h3 with rfl | ⟨rfl, h3⟩
      · exact ⟨(f7 rfl).1, .int, by rw [f4 sl f2, (f7 rfl).2], rfl, rfl⟩
      · refine ⟨(f8 rfl).1, .boolean, by rw [f4 sl f2, (f8 rfl).2], ?_⟩
        rcases h3 with rfl | rfl
        · exact ⟨by decide, by decide⟩
        · exact ⟨by decide, by decide⟩
    obtain ⟨g1, ty', g2, g3, g4⟩ := hty
    have key : ∀ (H1 : Heap) (locs1 : List Loc), va_P D vwCl ((xcH ad cI 0 ws).set a (ad a, .inr (ci, (fs.map (xcV ad)).set sl (.int x)))) H1 → va_D A ((xcH ad cI 0 ws).set a (ad a, .inr (ci, (fs.map (xcV ad)).set sl (.int x)))) → va_S A s.heap H1 locs1 → W p l e R s m args below meth c H1 locs1 0 0 Q (F0 m (pc + 3) ls (r.map (xcV ad))) := by
      intro H1 locs1 hP1 hD1 hS1
      have e1 : xcH ad cI 0 (ws.set a (.inr (ci, fs.set sl (.int x)))) = (xcH ad cI 0 ws).set a (ad a, .inr (ci, (fs.map (xcV ad)).set sl (.int x))) := by
        rw [xcH_set, Nat.zero_add]
        simp only [xcE, List.map_set, xcV]
      exact hk _ _ _ _ h (by rw [List.length_set]; exact hn) hm ls H1 locs1 hl (by rw [e1]; exact hP1) (by rw [e1]; exact hD1) hS1
    rcases f6 with f6 | ⟨host, f6⟩
    · exact va_put hx hb hts f3 ty0 f4 f5 hown hK hP hD hS a (xcH_at h1) f1 sl f2 (hts _ f6) (fun _ z => z) g1 g2 g3 g4 hsl hi key
    · exact va_putN hx hb hts f3 ty0 f4 f5 hown hK hP hD hS a (xcH_at h1) f1 sl f2 (hN _ f6) (fun _ z => z) g1 g2 g3 g4 hsl hi key
  | iaload =>
    obtain rfl : n = 1 := xn hok
    dsimp only [xstep] at h
    obtain ⟨i, a, r, n, g, rfl, h1, h2, h⟩ := xiald_e h
    exact fun hn hm ls H locs hl hP hD hS => va_iald hx hb hK hP a 0 (xcH_at h1) rfl h2 hi (hk _ _ _ _ h hn hm ls H locs hl hP hD hS)
  | iastore =>
    obtain rfl : n = 1 := xn hok
    dsimp only [xstep] at h
    obtain ⟨x, i, a, r, n, g, rfl, h1, h2, h⟩ := xiast_e h
    intro hn hm ls H locs hl hP hD hS
    refine va_iast hx hb hK hP hD hS a 0 (xcH_at h1) rfl h2 hi (fun H1 locs1 hP1 hD1 hS1 => ?_)
    have e1 : xcH ad cI 0 (ws.set a (.inl (n, upd g i.toNatClampNeg x))) = (xcH ad cI 0 ws).set a (ad a, .inl (cI, n, .inl (upd g i.toNatClampNeg x))) := by
      rw [xcH_set, Nat.zero_add]; rfl
    exact hk _ _ _ _ h (by rw [List.length_set]; exact hn) hm ls H1 locs1 hl (by rw [e1]; exact hP1) (by rw [e1]; exact hD1) hS1
  | arraylength =>
    obtain rfl : n = 1 := xn hok
    dsimp only [xstep] at h
    obtain ⟨a, r, n, g, rfl, h1, h⟩ := xalen_e h
    exact fun hn hm ls H locs hl hP hD hS => va_alen hx hb hK hP a 0 (xcH_at h1) rfl rfl hi (hk _ _ _ _ h hn hm ls H locs hl hP hD hS)
  | goto o =>
    obtain ⟨h0, hok⟩ := xb2 hok
    obtain rfl : n = 3 := xn h0
    dsimp only [xstep] at h
    obtain ⟨w, t, r, rfl, h⟩ := xtgt_e h
    exact fun hn hm ls H locs hl hP hD hS => lv_goto hx hb hi (of_decide_eq_true hok) (hk _ _ _ _ h hn hm ls H locs hl hP hD hS)
  | ifCond cd o =>
    obtain ⟨h0, hok⟩ := xb2 hok
    obtain rfl : n = 3 := xn h0
    dsimp only [xstep] at h
    obtain ⟨w, t, rr, x, r, rfl, rfl, h⟩ := xcnd_e h
    exact fun hn hm ls H locs hl hP hD hS => xcmp_0 hx hb hi (of_decide_eq_true hok) h (fun q => hk _ _ _ _ q hn hm ls H locs hl hP hD hS) (fun q => hk _ _ _ _ q hn hm ls H locs hl hP hD hS)
  | if_icmp cd o =>
    obtain ⟨h0, hok⟩ := xb2 hok
    obtain rfl : n = 3 := xn h0
    dsimp only [xstep] at h
    obtain ⟨w, t, rr, x, y, r, rfl, rfl, h⟩ := xcnd2_e h
    exact fun hn hm ls H locs hl hP hD hS => xcmp_2 hx hb hi (of_decide_eq_true hok) h (fun q => hk _ _ _ _ q hn hm ls H locs hl hP hD hS) (fun q => hk _ _ _ _ q hn hm ls H locs hl hP hD hS)
  | tableswitch d lo hi0 offs =>
    dsimp only [xstep] at h
    obtain ⟨w, dt, cs, x, r, rfl, rfl, h⟩ := xswi_e h
    obtain ⟨h0, hok⟩ := xb2 hok
    obtain ⟨h0, h00⟩ := xb2 h0
    have h0 : (pc : Int) + d = (dt : Int) := of_decide_eq_true h0
    have h00 : hi0 = lo + (offs.size : Int) - 1 := of_decide_eq_true h00
    have hok : cs.map (fun q => (q.1.toInt, (q.2 : Int))) = offs.toList.zipIdx.map (fun q => (lo + (q.2 : Int), (pc : Int) + q.1)) := of_decide_eq_true hok
    intro hn hm ls H locs hl hP hD hS
    rcases xsw_e h with ⟨i, key, t, g1, g2, g3, -⟩ | ⟨g1, g2⟩
    · have e1 : (cs.map (fun q => (q.1.toInt, (q.2 : Int))))[i]? = some (key.toInt, (t : Int)) := by rw [List.getElem?_map, g1]; rfl
      rw [hok, List.getElem?_map, List.getElem?_zipIdx] at e1
      cases ho : offs.toList[i]? with
      | none => rw [ho] at e1; cases e1
      | some o =>
        rw [ho] at e1
        simp only [Option.map_some, Option.some.injEq, Prod.mk.injEq, Nat.zero_add] at e1
        have hlt : i < offs.toList.length := (List.getElem?_eq_some_iff.mp ho).1
        rw [Array.length_toList] at hlt
        subst g2
        refine lv_tableIn hx hb hi (by omega) (by omega) (off := o) ?_ e1.2 (hk _ _ _ _ g3 hn hm ls H locs hl hP hD hS)
        rw [show (x.toInt - lo).toNat = i by omega]
        simpa using ho
    · refine lv_tableOut hx hb hi ?_ h0 (hk _ _ _ _ g2 hn hm ls H locs hl hP hD hS)
      rcases Int.lt_or_le x.toInt lo with q | q
      · exact Or.inl q
      · refine Or.inr ?_
        rcases Int.lt_or_le hi0 x.toInt with q2 | q2
        · exact q2
        · exfalso
          have hlt : (x.toInt - lo).toNat < offs.toList.length := by rw [Array.length_toList]; omega
          have e1 : (offs.toList.zipIdx.map (fun q => (lo + (q.2 : Int), (pc : Int) + q.1)))[(x.toInt - lo).toNat]? = some (x.toInt, (pc : Int) + offs.toList[(x.toInt - lo).toNat]) := by
            rw [List.getElem?_map, List.getElem?_zipIdx, List.getElem?_eq_getElem hlt]
            simp only [Option.map_some, Nat.zero_add]
            rw [show lo + (((x.toInt - lo).toNat : Nat) : Int) = x.toInt by omega]
          rw [← hok, List.getElem?_map] at e1
          cases hc : cs[(x.toInt - lo).toNat]? with
          | none => rw [hc] at e1; cases e1
          | some q =>
            rw [hc] at e1
            simp only [Option.map_some, Option.some.injEq, Prod.mk.injEq] at e1
            exact g1 q (List.mem_of_getElem? hc) (Int32.toInt_inj.mp e1.1.symm)
  | lookupswitch d ps =>
    dsimp only [xstep] at h
    obtain ⟨w, dt, cs, x, r, rfl, rfl, h⟩ := xswi_e h
    obtain ⟨h0, h2⟩ := xb2 hok
    obtain ⟨h0, h1⟩ := xb2 h0
    intro hn hm ls H locs hl hP hD hS
    obtain ⟨t, g1, g2⟩ := xlook (of_decide_eq_true h1) (of_decide_eq_true h0) h
    exact lv_lookup hx hb hi h2 rfl g1 (hk _ _ _ _ g2 hn hm ls H locs hl hP hD hS)
  | invokestatic j =>
    dsimp only [xstep] at h
    unfold xmin at h
    split at h
    next v0 c0 q rr =>
      obtain ⟨h0, hok⟩ := xb2 hok
      obtain rfl : n = 3 := xn h0
      obtain ⟨h1, h2⟩ := xb2 hok
      have hc0 : c0 = 0 := xn h2
      subst hc0
      obtain ⟨m1, m2, m3, m4⟩ := (hC.2.2.2 _ (xlk_mem (of_decide_eq_true h1))).1 rfl
      split at h
      next x y r =>
        split at h
        next hr =>
          intro hn hm ls H locs hl hP hD hS
          refine va_mmin hx hb (by rw [hl.1, hm]; exact hml) hown (hts _ m1) (hts _ m2) (hts _ m3) (hts _ m4) hfr ?_ (Nat.zero_le _) (Nat.zero_le _) hi (hk _ _ _ _ h hn hm ls H locs hl hP hD hS)
          have h3 := Nat.le_of_ble_eq_true hr
          have h4 : ((r.map (xcV ad)).map fun v => v.category) = r.map fun v => v.category := by
            rw [List.map_map]
            exact List.map_congr_left (fun v _ => xcV_cat ad v)
          show (((r.map (xcV ad)).map fun v => v.category)).sum + 13 ≤ R.locals
          rw [h4]
          unfold xcat at h3
          omega
        · exact h.elim
      · exact h.elim
    · exact hd h
  | _ => exact hd h
end XS
end
section
/-! a contract of the abstract machine is one of the real machine's -/
def xMOk (Ts nl : List Cond) (Ms : List xM) (M : xM) : Prop :=
  plainName M.1.cls = true ∧ Cond.code M.1 M.2.1 M.2.2.1 M.2.2.2.1 ∈ Ts ∧ M.2.2.1 ≤ 40 ∧ xtok M.2.1 M.2.2.2.2.2.1 M.2.2.2.2.1 = true ∧ M.2.2.2.2.2.1.1 = M.1.cls ∧ Cond.initialized M.1.cls ∈ Ts ∧ (M.2.2.2.2.2.2 = true → Cond.static M.1 ∈ Ts) ∧ (M.2.2.2.2.2.2 = false → Cond.instanceMethod M.1 ∈ Ts ∧ Cond.selects M.1.cls M.1 M.1 ∈ Ts) ∧ (M.1.cls ≠ "java/lang/invoke/MethodHandle" ∧ M.1.cls ≠ "java/lang/invoke/VarHandle") ∧ xCOk Ts nl Ms M.2.2.2.2.2.1
def xOK (Ts nl : List Cond) (Ms : List xM) : Prop := (∀ w ∈ Ts, goodWord w = true) ∧ (∀ w ∈ nl, ∃ a i b n d h, w = Cond.fieldLinkNest a i b n d h) ∧ ∀ c M, xnth Ms c = some M → c ≠ 0 → xMOk Ts nl Ms M
def xRm (d : Nat) : Room := { frames := d, cells := 0, slots := 0, locals := 60 * d }
def xNw (nl : List Cond) (U : State) : Prop := ∀ w ∈ nl, va_Nw w U
def xPc (nl : List Cond) (D : va_G) (cI : ClassId) (ad : Nat → Nat) (as : List Value) (ws : xH) (sz : Nat) : Array Value → State → Prop := va_Pc (as.map (xcV ad)) (fun U => U.heap.size = sz ∧ va_P D vwCl (xcH ad cI 0 ws) U.heap ∧ va_K D vwCl [(cI, .int)] U ∧ va_D (fun _ => True) (xcH ad cI 0 ws) ∧ xNw nl U)
def xQc (D : va_G) (cI : ClassId) (ad : Nat → Nat) (ws : xH) (sz : Nat) (Post : xPost) : Array Value → State → Outcome → State → Prop := fun _ st oc t => (∃ (v : Option Value) (ws' : xH), oc = .returned v ∧ xnum v ∧ Post v ws' ∧ ws'.length = ws.length ∧ va_P D vwCl (xcH ad cI 0 ws') t.heap) ∧ va_F (va_A (xcH ad cI 0 ws) sz) st t
theorem xtok_e {code : ByteArray} {K : xC} {tb : xT} {pc : Nat} {i : xI} (h : xtok code K tb = true) (hi : xlk tb pc = some i) : decode code pc = .ok (i.1, i.2.1) ∧ xok K pc i = true := by
  have h1 := List.all_eq_true.mp h _ (xlk_mem hi)
  obtain ⟨h2, h3⟩ := xb2 h1
  exact ⟨of_decide_eq_true h2, h3⟩
theorem xcV_r (ad : Nat → Nat) (pl : List Nat) (v : Value) : xcV ad (xrV pl v) = xcV (fun j => ad ((xnth pl j).getD 0)) v := by cases v <;> rfl
theorem xcE_r (ad : Nat → Nat) (cI : ClassId) (pl : List Nat) (e : xE) : xcE ad cI (xrE pl e) = xcE (fun j => ad ((xnth pl j).getD 0)) cI e := by
  rcases e with ⟨n, f⟩ | ⟨c, fs⟩
  · rfl
  · simp only [xrE, xcE, List.map_map]
    congr 2
    exact List.map_congr_left (fun v _ => xcV_r ad pl v)
theorem xsub_e {pl : List Nat} {wc ws : xH} (h : xsub pl wc ws) : pl.length = wc.length ∧ ∀ (j : Nat) (e : xE), xnth wc j = some e → ∃ p, pl[j]? = some p ∧ xnth ws p = some (xrE pl e) := by
  unfold xsub at h
  refine ⟨by simpa using congrArg List.length h, fun j e he => ?_⟩
  have h1 : (wc.map (fun e => some (xrE pl e)))[j]? = some (some (xrE pl e)) := by rw [List.getElem?_map, ← xnth_eq, he]; rfl
  rw [← h, List.getElem?_map] at h1
  cases hp : pl[j]? with
  | none => rw [hp] at h1; cases h1
  | some p => rw [hp] at h1; exact ⟨p, rfl, Option.some.inj h1⟩
theorem xput_len (pl : List Nat) : ∀ (ps : List Nat) (es ws : xH), (xput pl ps es ws).length = ws.length
  | [], _, _ => rfl
  | _ :: _, [], _ => rfl
  | p :: ps, e :: es, ws => by
    unfold xput
    rw [xput_len pl ps es, List.length_set]
theorem xput_out (pl : List Nat) : ∀ (ps : List Nat) (es ws : xH) (k : Nat), k ∉ ps → xnth (xput pl ps es ws) k = xnth ws k
  | [], _, _, _, _ => rfl
  | _ :: _, [], _, _, _ => rfl
  | p :: ps, e :: es, ws, k, h => by
    unfold xput
    rw [xput_out pl ps es _ k (fun q => h (List.mem_cons_of_mem _ q)), xnth_eq, xnth_eq, List.getElem?_set_ne]
    exact fun q => h (by rw [q]; exact List.mem_cons_self)
theorem xput_in (pl : List Nat) : ∀ (ps : List Nat) (es ws : xH) (j p : Nat) (e : xE), va_nd ps = true → ps[j]? = some p → es[j]? = some e → p < ws.length → xnth (xput pl ps es ws) p = some (xrE pl e)
  | [], _, _, _, _, _, _, h, _, _ => by simp at h
  | _ :: _, [], _, _, _, _, _, _, h, _ => by simp at h
  | p0 :: ps, e0 :: es, ws, 0, p, e, hn, h1, h2, h3 => by
    simp only [List.getElem?_cons_zero, Option.some.injEq] at h1 h2
    subst h1; subst h2
    simp only [va_nd, Bool.and_eq_true, decide_eq_true_eq] at hn
    unfold xput
    rw [xput_out pl ps es _ _ hn.1, xnth_eq, List.getElem?_set_self h3]
  | p0 :: ps, e0 :: es, ws, j + 1, p, e, hn, h1, h2, h3 => by
    rw [List.getElem?_cons_succ] at h1 h2
    simp only [va_nd, Bool.and_eq_true, decide_eq_true_eq] at hn
    unfold xput
    exact xput_in pl ps es _ j p e hn.2 h1 h2 (by rw [List.length_set]; exact h3)
theorem xnth_lt {α : Type} {l : List α} {k : Nat} {a : α} (h : xnth l k = some a) : k < l.length := by
  rw [xnth_eq] at h
  exact (List.getElem?_eq_some_iff.mp h).1
theorem xnth_of_lt {α : Type} {l : List α} {k : Nat} (h : k < l.length) : ∃ a, xnth l k = some a := ⟨l[k], by rw [xnth_eq]; exact List.getElem?_eq_getElem h⟩
section XC
variable {D : va_G} {A : Nat → Prop} {ad : Nat → Nat} {cI : ClassId} {pl : List Nat} {wc ws : xH} {H H1 : Heap}
theorem xc_P (hs : xsub pl wc ws) (hP : va_P D vwCl (xcH ad cI 0 ws) H) : va_P D vwCl (xcH (fun j => ad ((xnth pl j).getD 0)) cI 0 wc) H := by
  intro k q hq
  obtain ⟨e, h1, rfl⟩ := xcH_of hq
  obtain ⟨p, h2, h3⟩ := (xsub_e hs).2 k e h1
  have h4 := hP p _ (xcH_at h3)
  rw [xcE_r] at h4
  rw [show (xnth pl k).getD 0 = p by rw [xnth_eq, h2]; rfl]
  exact h4
theorem xc_D (hs : xsub pl wc ws) (hn : va_nd pl = true) (hD : va_D A (xcH ad cI 0 ws)) : va_D A (xcH (fun j => ad ((xnth pl j).getD 0)) cI 0 wc) := by
  refine ⟨fun i j x y hx hy hxy => ?_, fun k q hq => ?_⟩
  · obtain ⟨e1, h1, rfl⟩ := xcH_of hx
    obtain ⟨e2, h2, rfl⟩ := xcH_of hy
    obtain ⟨p1, g1, g2⟩ := (xsub_e hs).2 i e1 h1
    obtain ⟨p2, g3, g4⟩ := (xsub_e hs).2 j e2 h2
    have e := hD.1 p1 p2 _ _ (xcH_at g2) (xcH_at g4) (by
      have : ad ((xnth pl i).getD 0) = ad ((xnth pl j).getD 0) := hxy
      rw [show (xnth pl i).getD 0 = p1 by rw [xnth_eq, g1]; rfl, show (xnth pl j).getD 0 = p2 by rw [xnth_eq, g3]; rfl] at this
      exact this)
    subst e
    exact va_nd_inj pl hn i j p1 g1 g3
  · obtain ⟨e1, h1, rfl⟩ := xcH_of hq
    obtain ⟨p1, g1, g2⟩ := (xsub_e hs).2 k e1 h1
    have h3 := hD.2 p1 _ (xcH_at g2)
    rw [show (xnth pl k).getD 0 = p1 by rw [xnth_eq, g1]; rfl]
    exact h3
theorem xc_A (hs : xsub pl wc ws) {q sz : Nat} (h : va_A (xcH (fun j => ad ((xnth pl j).getD 0)) cI 0 wc) sz q) : (∃ p e, p ∈ pl ∧ xnth ws p = some e ∧ q = ad p) ∨ sz ≤ q := by
  rcases h with ⟨k, e, h⟩ | h
  · obtain ⟨e1, h1, h2⟩ := xcH_of h
    obtain ⟨p1, g1, g2⟩ := (xsub_e hs).2 k e1 h1
    refine Or.inl ⟨p1, _, List.mem_of_getElem? g1, g2, ?_⟩
    have h3 : q = ad ((xnth pl k).getD 0) := congrArg Prod.fst h2
    rw [h3, show (xnth pl k).getD 0 = p1 by rw [xnth_eq, g1]; rfl]
  · exact Or.inr h
theorem xc_J (hs : xsub pl wc ws) (hn : va_nd pl = true) (hP : va_P D vwCl (xcH ad cI 0 ws) H) (hD : va_D A (xcH ad cI 0 ws)) {wc' : xH} (hl : wc'.length = wc.length) (hP1 : va_P D vwCl (xcH (fun j => ad ((xnth pl j).getD 0)) cI 0 wc') H1)
    (hk : ∀ q : Nat, q < H.size → ¬ va_A (xcH (fun j => ad ((xnth pl j).getD 0)) cI 0 wc) H.size q → H1[q]? = H[q]?) : va_P D vwCl (xcH ad cI 0 (xput pl pl wc' ws)) H1 ∧ va_D A (xcH ad cI 0 (xput pl pl wc' ws)) := by
  have hlen := (xsub_e hs).1
  have key : ∀ (k : Nat) (e : xE), xnth (xput pl pl wc' ws) k = some e → ∃ e0, xnth ws k = some e0 := fun k e h => xnth_of_lt (by rw [← xput_len pl pl wc' ws]; exact xnth_lt h)
  refine ⟨fun k q hq => ?_, fun i j x y hx hy hxy => ?_, fun k q hq => ?_⟩
  · obtain ⟨e, h1, rfl⟩ := xcH_of hq
    obtain ⟨e0, h0⟩ := key k e h1
    by_cases hin : k ∈ pl
    · obtain ⟨j, hj⟩ := List.getElem?_of_mem hin
      have hjl : j < wc'.length := by rw [hl, ← hlen]; exact (List.getElem?_eq_some_iff.mp hj).1
      have h2 := xput_in pl pl wc' ws j k wc'[j] hn hj (List.getElem?_eq_getElem hjl) (xnth_lt h0)
      rw [h1] at h2
      cases h2
      have h3 := hP1 j _ (xcH_at (e := wc'[j]) (by rw [xnth_eq]; exact List.getElem?_eq_getElem hjl))
      rw [xcE_r]
      rw [show (xnth pl j).getD 0 = k by rw [xnth_eq, hj]; rfl] at h3
      exact h3
    · rw [xput_out pl pl wc' ws k hin] at h1
      have h2 := hP k _ (xcH_at h1)
      refine h2.kept (hk _ h2.lt (fun h => ?_))
      rcases xc_A hs h with ⟨p, e1, g1, g2, g3⟩ | h
      · have := hD.1 k p _ _ (xcH_at h1) (xcH_at g2) g3
        exact hin (by rw [this]; exact g1)
      · exact absurd h2.lt (Nat.not_lt.mpr h)
  · obtain ⟨e1, h1, rfl⟩ := xcH_of hx
    obtain ⟨e2, h2, rfl⟩ := xcH_of hy
    obtain ⟨f1, g1⟩ := key i e1 h1
    obtain ⟨f2, g2⟩ := key j e2 h2
    exact hD.1 i j _ _ (xcH_at g1) (xcH_at g2) hxy
  · obtain ⟨e1, h1, rfl⟩ := xcH_of hq
    obtain ⟨f1, g1⟩ := key k e1 h1
    have h3 := hD.2 k _ (xcH_at (ad := ad) (cI := cI) g1)
    exact h3
end XC
theorem xPc_blind {nl : List Cond} (hnl : ∀ w ∈ nl, ∃ a i b n d h, w = Cond.fieldLinkNest a i b n d h) {D : va_G} {cI : ClassId} {ad : Nat → Nat} {as : List Value} {ws : xH} {sz : Nat} : FrameBlind (xPc nl D cI ad as ws sz) := by
  intro a U g mk q
  obtain ⟨q0, q1, q2, q3, q4, q5⟩ := q
  refine ⟨q0, q1, q2, va_K.moved (u := U) (U := U.calling g mk a) (Vm.Alike.refl U.vm) q3, q4, fun w hw => ?_⟩
  obtain ⟨a1, i1, b1, n1, d1, h1, rfl⟩ := hnl w hw
  exact va_Nw.same rfl rfl (q5 _ hw)
theorem xent_Rl {ad : Nat → Nat} {as : List Value} {n : Nat} (h : (xsl as).length ≤ n) : ∃ ls : Array Slot, (∀ m : MethodId, entryFrame m (as.map (xcV ad)).toArray n = F0 m 0 ls []) ∧ xRl ad ls (xent as n) := by
  have hlen : ∀ as : List Value, (lg_sl (as.map (xcV ad))).length = (xsl as).length := by
    intro as
    induction as with
    | nil => rfl
    | cons v t ih => cases v <;> simp [lg_sl, xsl, xcV, Value.category] at ih ⊢ <;> omega
  have hl := lv_entry (as.map (xcV ad)) (n := n) (by rw [hlen]; exact h)
  refine ⟨_, fun m => lg_entry_eq m _ n, ?_, hl.2.1, fun i v hv => ?_⟩
  · rw [hl.1]
    unfold xent
    rw [List.length_append, List.length_replicate]
    omega
  · refine hl.2.2 (i, xcV ad v) ?_
    have key : ∀ (as : List Value) (i j : Nat) (v : Value) (k : Nat), (xsl as ++ List.replicate k none)[i]? = some (some v) → (j + i, xcV ad v) ∈ lv_args j (as.map (xcV ad)) := by
      intro as
      induction as with
      | nil =>
        intro i j v k h
        simp only [xsl, List.nil_append] at h
        have := List.eq_of_mem_replicate (List.mem_of_getElem? h)
        cases this
      | cons w t ih =>
        intro i j v k h
        have two : ∀ (w : Value), w.category = 2 → (some w :: none :: (xsl t ++ List.replicate k none))[i]? = some (some v) → (j + i, xcV ad v) ∈ (j, xcV ad w) :: lv_args (j + 2) (t.map (xcV ad)) := by
          intro w _ h
          cases i with
          | zero =>
            simp only [List.getElem?_cons_zero, Option.some.injEq] at h
            subst h
            exact List.mem_cons_self
          | succ i =>
            cases i with
            | zero => simp at h
            | succ i =>
              rw [List.getElem?_cons_succ, List.getElem?_cons_succ] at h
              have := ih i (j + 2) v k h
              rw [show j + 2 + i = j + (i + 1 + 1) by omega] at this
              exact List.mem_cons_of_mem _ this
        have one : ∀ (w : Value), (some w :: (xsl t ++ List.replicate k none))[i]? = some (some v) → (j + i, xcV ad v) ∈ (j, xcV ad w) :: lv_args (j + 1) (t.map (xcV ad)) := by
          intro w h
          cases i with
          | zero =>
            simp only [List.getElem?_cons_zero, Option.some.injEq] at h
            subst h
            exact List.mem_cons_self
          | succ i =>
            rw [List.getElem?_cons_succ] at h
            have := ih i (j + 1) v k h
            rw [show j + 1 + i = j + (i + 1) by omega] at this
            exact List.mem_cons_of_mem _ this
        cases w with
        | long x => exact two (.long x) rfl h
        | double x => exact two (.double x) rfl h
        | int x => exact one (.int x) h
        | float x => exact one (.float x) h
        | null => exact one .null h
        | ref x => exact one (.ref x) h
        | retAddr x => exact one (.retAddr x) h
    have := key as i 0 v _ hv
    rw [Nat.zero_add] at this
    exact this

set_option maxHeartbeats 4000000 in
theorem x_sound {Ts nl : List Cond} {Ms : List xM} (hOK : xOK Ts nl Ms) (l : Launch) : ∀ (d c : Nat) (M : xM) (as : List Value) (ws : xH) (Post : xPost), xnth Ms c = some M → c ≠ 0 → xCt Ms d c as ws Post → ∀ (D : va_G) (cI : ClassId) (ad : Nat → Nat) (sz : Nat),
    Met l M.1 (Cond.code M.1 M.2.1 M.2.2.1 M.2.2.2.1 :: Ts) (xRm d) (xPc nl D cI ad as ws sz) (xQc D cI ad ws sz Post) 0 0 (va_A (xcH ad cI 0 ws) sz) := by
  obtain ⟨hgood, hnl, hMs⟩ := hOK
  intro d
  induction d with
  | zero => intro c M as ws Post _ _ h; exact h.elim
  | succ d ih =>
    intro c0 M as ws Post hM hc0 hCt D cI ad sz
    obtain ⟨M', hM', -, hsl, hG⟩ := hCt
    cases hM.symm.trans hM'
    obtain ⟨o1, o2, o3, o4, o5, o6, o7, o8, o9, o10⟩ := hMs c0 M hM hc0
    refine Met.ofW (cc := M.2.1) (maxL := M.2.2.1) (ret := M.2.2.2.1) o1 rfl ?_
    intro p e s m args below meth c s₁ B hml hv
    obtain ⟨rfl, hsz, hP, hK, hD0, hNw⟩ := hv
    have hx := B.exec
    have hb := B.bytes
    have hr := B.returns
    have hlocks := B.notSynchronized
    have hts0 := atoms_spec (ws := Cond.code M.1 M.2.1 M.2.2.1 M.2.2.2.1 :: Ts) B.pre
    have hts : ∀ w ∈ Ts, w.before (as.map (xcV ad)).toArray s = true := fun w hw => hts0 w (List.mem_cons_of_mem _ hw)
    have hown : s.vm.findClass M.2.2.2.2.2.1.1 = some m.cls := by rw [o5]; exact findClass_of_methodNamed B.named
    have hN : ∀ w ∈ nl, w.before (as.map (xcV ad)).toArray s = true := fun w hw => by
      have h1 := hNw w hw
      obtain ⟨a1, i1, b1, n1, d1, h1', rfl⟩ := hnl w hw
      exact va_Nw.use rfl h1
    subst hsz
    have hD := hD0.self (sz := s.heap.size)
    obtain ⟨ls, hls, hRl⟩ := xent_Rl (ad := ad) (as := as) (n := M.2.2.1) (Nat.le_of_ble_eq_true hsl)
    rw [hls m]
    have hentl : (xent as M.2.2.1).length = M.2.2.1 := by
      unfold xent
      rw [List.length_append, List.length_replicate]
      have := Nat.le_of_ble_eq_true hsl
      omega
    refine hG (xGW p l e (headSpec (Cond.code M.1 M.2.1 M.2.2.1 M.2.2.2.1 :: Ts) (xRm (d + 1))).room s m (as.map (xcV ad)).toArray below meth c (MQ below (xQc D cI ad ws s.heap.size Post) (as.map (xcV ad)).toArray s 0 0 (va_A (xcH ad cI 0 ws) s.heap.size)) D (va_A (xcH ad cI 0 ws) s.heap.size) ad cI ws.length M.2.2.1) ?_ ⟨?_, ?_, ?_⟩ ?_ rfl hentl ls s.heap [] hRl hP hD va_S.rf
    · intro pc i loc st ws' k hi hk h
      obtain ⟨h1, h2⟩ := xtok_e o4 hi
      exact xstep_ok (K := M.2.2.2.2.2.1) (Ms := Ms) hx hb hml hown hts hN hnl hK o10 (show 1 ≤ d + 1 by omega) (show 21 ≤ 60 * (d + 1) by omega) h1 h2 hk id h
    · intro pc n an j loc ws' x hi hret hp hn hm ls H locs hl hP hD hS
      obtain ⟨h1, h2⟩ := xtok_e o4 hi
      have hn1 : n = 1 := xn h2
      subst hn1
      have hq : ∀ t : State, t.heap = H → s.WarmedH t.vm → xQc D cI ad ws s.heap.size Post (as.map (xcV ad)).toArray s (.returned (some (.int x))) t := fun t ht hW => ⟨⟨some (.int x), ws', rfl, Or.inr (Or.inl ⟨x, rfl⟩), hp, hn, by rw [ht]; exact hP⟩, hS.F ht⟩
      rcases hret with hret | ⟨hret, h01⟩
      · exact W.iret hx hb (by rw [hr, hret]) hq hS.2.2 h1
      · refine W.zret (ty := .boolean) hx hb (by rw [hr, hret]) ?_ hq hS.2.2 h1
        rcases h01 with rfl | rfl <;> decide
    · intro pc n an j loc ws' x hi hret hp hn hm ls H locs hl hP hD hS
      obtain ⟨h1, h2⟩ := xtok_e o4 hi
      have hn1 : n = 1 := xn h2
      subst hn1
      have hq : ∀ t : State, t.heap = H → s.WarmedH t.vm → xQc D cI ad ws s.heap.size Post (as.map (xcV ad)).toArray s (.returned (some (.long x))) t := fun t ht hW => ⟨⟨some (.long x), ws', rfl, Or.inr (Or.inr ⟨x, rfl⟩), hp, hn, by rw [ht]; exact hP⟩, hS.F ht⟩
      exact W.lret hx hb (by rw [hr, hret]) hq hS.2.2 h1
    · intro pc n an j loc ws' hi hret hp hn hm ls H locs hl hP hD hS
      obtain ⟨h1, h2⟩ := xtok_e o4 hi
      have hn1 : n = 1 := xn h2
      subst hn1
      have hq : ∀ t : State, t.heap = H → s.WarmedH t.vm → xQc D cI ad ws s.heap.size Post (as.map (xcV ad)).toArray s (.returned none) t := fun t ht hW => ⟨⟨none, ws', rfl, Or.inl rfl, hp, hn, by rw [ht]; exact hP⟩, hS.F ht⟩
      exact W.vret hx hb (by rw [hr, hret]) hq hS.2.2 h1
    · intro pc x n c1 M1 v0 j loc st rest ws' as1 pl wc PC hM1 hi hst hrest hnd hsub hCl hk hn hm ls H locs hl hP hD hS
      obtain ⟨h1, h2⟩ := xtok_e o4 hi
      have hc1 : c1 ≠ 0 ∧ n = 3 ∧ Cond.methodLink M.2.2.2.2.2.1.1 x M1.1 ∈ Ts := by
        have key : Nat.beq n 3 = true → (decide (xlk M.2.2.2.2.2.1.2.2.2.2 x = some c1) && !Nat.beq c1 0) = true → c1 ≠ 0 ∧ n = 3 ∧ Cond.methodLink M.2.2.2.2.2.1.1 x M1.1 ∈ Ts := by
          intro h3 h4
          obtain ⟨h5, h6⟩ := xb2 h4
          have hc1 : c1 ≠ 0 := fun q => by rw [q] at h6; cases h6
          exact ⟨hc1, xn h3, (o10.2.2.2 _ (xlk_mem (of_decide_eq_true h5))).2 hc1 M1 hM1⟩
        cases hs : M1.2.2.2.2.2.2 with
        | true => rw [hs] at h2; obtain ⟨h3, h4⟩ := xb2 h2; exact key h3 h4
        | false => rw [hs] at h2; obtain ⟨h3, h4⟩ := xb2 h2; exact key h3 h4
      obtain ⟨hc1, rfl, hlk⟩ := hc1
      obtain ⟨p1, p2, p3, p4, p5, p6, p7, p8, p9, p10⟩ := hMs c1 M1 hM1 hc1
      have hmet := ih c1 M1 as1 wc PC hM1 hc1 hCl D cI (fun j => ad ((xnth pl j).getD 0)) H.size
      have hPc := xc_P hsub hP
      have hDc := xc_D hsub hnd hD
      have hfree : ∀ q, va_A (xcH (fun j => ad ((xnth pl j).getD 0)) cI 0 wc) H.size q → va_A (xcH ad cI 0 ws) s.heap.size q := by
        intro q hq
        rcases xc_A hsub hq with ⟨p0, e0, -, g2, rfl⟩ | h
        · exact hD.2 p0 _ (xcH_at g2)
        · exact Or.inr (Nat.le_trans hS.1 h)
      have hst' : st.map (xcV ad) = (as1.map (xcV (fun j => ad ((xnth pl j).getD 0)))).reverse ++ rest.map (xcV ad) := by
        rw [hst, List.map_append, List.map_reverse, List.map_map]
        congr 2
        exact List.map_congr_left (fun v _ => xcV_r ad pl v)
      have hpay : ∀ w ∈ (Cond.code M1.1 M1.2.1 M1.2.2.1 M1.2.2.2.1 :: Ts), ∀ (a' : Array Value) (U : State), s.WarmedH U.vm → w.before a' U = true := pay_in hts (fun w hw => by
        have : w ∈ Ts := by
          rcases List.mem_cons.mp hw with rfl | hw
          · exact p2
          · exact hw
        exact ⟨this, good_of_word (hgood w this)⟩)
      have hcat : ((rest.map (xcV ad)).map fun v => v.category).sum ≤ 8 := by
        rw [List.map_map]
        have e1 : rest.map ((fun v => v.category) ∘ xcV ad) = rest.map fun v => v.category := List.map_congr_left (fun v _ => xcV_cat ad v)
        rw [e1]
        exact Nat.le_of_ble_eq_true hrest
      have hlo : 8 + (M1.2.2.1 + 11) + (xRm d).locals ≤ (headSpec (Cond.code M.1 M.2.1 M.2.2.1 M.2.2.2.1 :: Ts) (xRm (d + 1))).room.locals := by
        show 8 + (M1.2.2.1 + 11) + 60 * d ≤ 60 * (d + 1)
        omega
      have hpre : ∀ U : State, U.heap = H → s.WarmedH U.vm → xPc nl D cI (fun j => ad ((xnth pl j).getD 0)) as1 wc H.size (as1.map (xcV (fun j => ad ((xnth pl j).getD 0)))).toArray U := by
        intro U hU hW
        refine ⟨rfl, by rw [hU], by rw [hU]; exact hPc, va_K.moved hW.alike hK, hDc.weaken (fun _ _ _ _ => trivial), fun w hw => ?_⟩
        have h1 := hNw w hw
        obtain ⟨a1, i1, b1, n1, d1, h1', rfl⟩ := hnl w hw
        exact va_Nw.warmF hW h1
      have hsz : (F0 m pc ls (st.map (xcV ad))).locals.size = M.2.2.1 := by
        show ls.size = _
        rw [hl.1, hm]
      have hfix : CallFix p m c M.2.1 M.2.2.1 s (as.map (xcV ad)).toArray Ts M.2.2.2.2.2.1.1 := ⟨hx, hb, hml, hown, hts⟩
      have hrun : va_Run p l e (headSpec (Cond.code M.1 M.2.1 M.2.2.1 M.2.2.2.1 :: Ts) (xRm (d + 1))).room s m (as.map (xcV ad)).toArray below meth c H locs 0 0 0 0 (F0 m pc ls (st.map (xcV ad))) (rest.map (xcV ad)) (xQc D cI (fun j => ad ((xnth pl j).getD 0)) wc H.size PC (as1.map (xcV (fun j => ad ((xnth pl j).getD 0)))).toArray) (va_A (xcH (fun j => ad ((xnth pl j).getD 0)) cI 0 wc) H.size) := by
        cases d with
        | zero => exact hCl.elim
        | succ d =>
          obtain ⟨M1', hM1', hrec, -, -⟩ := hCl
          cases hM1.symm.trans hM1'
          cases hs : M1.2.2.2.2.2.2 with
          | true =>
            rw [hs] at hrec h1
            have cb : CallB (headSpec (Cond.code M.1 M.2.1 M.2.2.1 M.2.2.2.1 :: Ts) (xRm (d + 1 + 1))).room s (as.map (xcV ad)).toArray M.2.2.2.2.2.1.1 x M1.1 M1.2.1 M1.2.2.1 M1.2.2.2.1 (Cond.code M1.1 M1.2.1 M1.2.2.1 M1.2.2.2.1 :: Ts) (xRm (d + 1)) 0 0 as1.length :=
              ⟨rfl, rfl, Nat.le_refl _, hlo, hpay, List.mem_cons_self, hts _ p2, hts _ p6, p9, fun sig h => by
                rw [h] at hrec
                exact (Option.some.inj hrec).symm, hts _ hlk⟩
            exact va_runS hfix hmet ⟨cb, hts _ (p7 hs)⟩ ⟨xPc_blind hnl, hpre⟩ rfl (by rw [List.length_map]) hsz (by show st.map (xcV ad) = _; rw [hst']) (lv_room hcat) h1 ⟨Nat.le_refl _, Nat.le_refl _⟩
          | false =>
            rw [hs] at hrec h1
            obtain ⟨a, ci, fs, r, q, rfl, ha, hq, hq2, hlen⟩ := hrec
            have cb : CallB (headSpec (Cond.code M.1 M.2.1 M.2.2.1 M.2.2.2.1 :: Ts) (xRm (d + 1 + 1))).room s (as.map (xcV ad)).toArray M.2.2.2.2.2.1.1 x M1.1 M1.2.1 M1.2.2.1 M1.2.2.2.1 (Cond.code M1.1 M1.2.1 M1.2.2.1 M1.2.2.2.1 :: Ts) (xRm (d + 1)) 0 0 r.length :=
              ⟨rfl, rfl, Nat.le_refl _, hlo, hpay, List.mem_cons_self, hts _ p2, hts _ p6, p9, fun sig h => by
                rw [h] at hlen
                exact (Option.some.inj hlen).symm, hts _ hlk⟩
            have hrecv := va_recv hK hPc hq (xcH_at ha)
            rw [hq2] at hrecv
            exact va_runV (b := ad ((xnth pl a).getD 0)) (As := r.map (xcV (fun j => ad ((xnth pl j).getD 0)))) hfix hmet ⟨cb, hts _ (p8 hs).1, hts _ (p8 hs).2⟩ ⟨xPc_blind hnl, hrecv, hpre⟩ rfl (by rw [List.length_map]) hsz (by
              show st.map (xcV ad) = _
              rw [hst']
              simp [xcV]) (lv_room hcat) h1 ⟨Nat.le_refl _, Nat.le_refl _⟩
      intro T hT X
      obtain ⟨v, st₀, t, T', L, h0, X', hL, e1, e2, ⟨⟨v', wc', hv, hnum, hpc, hwl, hP1⟩, hF⟩, hgo⟩ := hrun T hT X
      cases hv
      rw [← e1] at hP1
      have hF2 : ∀ q : Nat, q < H.size → ¬ va_A (xcH (fun j => ad ((xnth pl j).getD 0)) cI 0 wc) H.size q → T'.heap[q]? = H[q]? := by
        intro q h3 h4
        rw [e1, ← h0]
        exact hF.2 q (by rw [h0]; exact h3) h4
      obtain ⟨hP2, hD2⟩ := xc_J hsub hnd hP hD hwl hP1 hF2
      have hS2 : va_S (va_A (xcH ad cI 0 ws) s.heap.size) s.heap T'.heap (locs ++ L) := by
        refine ⟨Nat.le_trans hS.1 (by rw [e1, ← h0]; exact hF.1), fun q h3 h4 => ?_, fun q hq => ?_⟩
        · rw [hF2 q (Nat.lt_of_lt_of_le h3 hS.1) (fun z => h4 (hfree q z))]
          exact hS.2.1 q h3 h4
        · rcases List.mem_append.mp hq with h | h
          · exact hS.2.2 q h
          · exact hfree _ (hL q h)
      have hvv : (v.toList ++ rest).map (xcV ad) = v.toList ++ rest.map (xcV ad) := by
        rw [List.map_append]
        congr 1
        rcases hnum with rfl | ⟨z, rfl⟩ | ⟨z, rfl⟩ <;> rfl
      obtain ⟨t2, a1, b1⟩ := hk v wc' hpc hwl (by rw [xput_len]; exact hn) hm ls T'.heap (locs ++ L) hl hP2 hD2 hS2 T' rfl X'
      refine ⟨t2, hgo t2 ?_, b1⟩
      rw [hvv] at a1
      exact a1
end
section
/-! tables: printed by wip/whole/gen_tabs.py -/
def xTs : List Cond := lw_tbl.filter goodWord
def xnl : List Cond := [.fieldLinkNest "SlidesOverSlides$Search" 96 "SlidesOverSlides$Lantern" "prices" "[I" "SlidesOverSlides", .fieldLinkNest "SlidesOverSlides$Tour" 21 "SlidesOverSlides$Lantern" "slideCount" "I" "SlidesOverSlides", .fieldLinkNest "SlidesOverSlides$Search" 73 "SlidesOverSlides$Lantern" "slideCount" "I" "SlidesOverSlides", .fieldLinkNest "SlidesOverSlides" 183 "SlidesOverSlides$Lantern" "slideCount" "I" "SlidesOverSlides", .fieldLinkNest "SlidesOverSlides$Tour" 61 "SlidesOverSlides$Lantern" "wantedCount" "I" "SlidesOverSlides", .fieldLinkNest "SlidesOverSlides$Search" 57 "SlidesOverSlides$Lantern" "wantedCount" "I" "SlidesOverSlides", .fieldLinkNest "SlidesOverSlides" 196 "SlidesOverSlides$Lantern" "wantedCount" "I" "SlidesOverSlides", .fieldLinkNest "SlidesOverSlides" 100 "SlidesOverSlides$Lantern" "heatNow" "I" "SlidesOverSlides", .fieldLinkNest "SlidesOverSlides" 205 "SlidesOverSlides$Letters" "told" "I" "SlidesOverSlides", .fieldLinkNest "SlidesOverSlides" 140 "SlidesOverSlides$Search" "fewestSize" "I" "SlidesOverSlides", .fieldLinkNest "SlidesOverSlides" 143 "SlidesOverSlides$Search" "fewestSet" "I" "SlidesOverSlides", .fieldLinkNest "SlidesOverSlides" 146 "SlidesOverSlides$Search" "fewestOver" "I" "SlidesOverSlides", .fieldLinkNest "SlidesOverSlides" 149 "SlidesOverSlides$Search" "fewestWays" "I" "SlidesOverSlides"]
def KJ6 : xC := (RJ6, [], [(265, 1431655765), (266, 858993459), (267, 252645135)], [], [])
def KX0 : xC := (RX0, [], [(9, 52428), (10, 43690), (11, 65280), (12, 61680), (15, (-34953)), (16, 34952)], [], [(17, 4)])
def KX1 : xC := (RX1, [(9, 0, 0, 2), (15, 0, 1, 2), (18, 0, 2, 2), (21, 0, 3, 2), (24, 0, 4, 2), (27, 0, 5, 2), (34, 0, 6, 0), (37, 0, 7, 0), (30, 0, 8, 0)], [(67, 65535)], [], [(53, 10), (56, 18), (59, 1), (64, 2), (68, 17), (71, 3), (50, 12), (40, 11), (44, 13), (75, 21), (78, 22), (82, 0)])
def KX2 : xC := (RX2, [(11, 1, 0, 2), (15, 1, 1, 0)], [], [], [(19, 28), (23, 33), (27, 31), (31, 32), (35, 39), (39, 35), (42, 37), (45, 36), (48, 38), (51, 7), (57, 8), (60, 9)])
def KX3 : xC := (RX3, [(96, 0, 3, 2), (73, 0, 6, 0), (57, 0, 7, 0), (9, 2, 0, 2), (15, 2, 1, 2), (18, 2, 2, 2), (21, 2, 3, 2), (82, 2, 4, 0), (70, 2, 5, 0), (45, 2, 6, 0), (28, 2, 7, 0), (32, 2, 8, 0), (35, 2, 9, 0), (38, 2, 10, 0)], [(52, 65535)], [], [(24, 43), (76, 0), (85, 18), (88, 41), (91, 1), (99, 42), (41, 46), (102, 44), (105, 13), (110, 45), (48, 48), (53, 50), (62, 16), (66, 52)])
def KX4 : xC := (RX4, [(21, 0, 6, 0), (61, 0, 7, 0), (11, 3, 0, 2), (15, 3, 1, 2), (18, 3, 2, 2)], [], [], [(27, 0), (33, 54), (58, 18), (37, 56), (64, 16), (67, 55), (41, 13), (47, 57), (51, 58), (55, 59)])
def KX5 : xC := (RX5, [(183, 0, 6, 0), (196, 0, 7, 0), (100, 0, 8, 0), (205, 1, 1, 0), (140, 2, 7, 0), (143, 2, 8, 0), (146, 2, 9, 0), (149, 2, 10, 0), (10, 4, 0, 2), (16, 4, 1, 2), (19, 4, 2, 2), (192, 4, 3, 1), (25, 4, 4, 2), (32, 4, 5, 2), (39, 4, 6, 2), (43, 4, 7, 2), (177, 4, 8, 0), (47, 4, 9, 2)], [(122, 65535), (210, 1103515245), (211, 2147483647), (212, 65536)], [(168, 4000000000000000000)], [(50, 61), (54, 28), (58, 62), (62, 29), (65, 34), (69, 6), (73, 40), (77, 30), (80, 65), (159, 10), (83, 66), (87, 67), (90, 19), (93, 12), (97, 16), (104, 20), (107, 72), (207, 11), (110, 21), (113, 14), (116, 23), (119, 75), (123, 13), (128, 5), (133, 24), (136, 47), (152, 49), (156, 51), (162, 53), (165, 25), (170, 85), (174, 60), (180, 15), (186, 90), (189, 91), (199, 26), (202, 27)])
def KX6 : xC := (RX6, [(7, 5, 0, 2), (13, 5, 1, 2), (16, 5, 2, 2), (19, 5, 3, 2), (22, 5, 4, 2), (25, 5, 5, 2), (28, 5, 6, 2), (64, 5, 7, 0), (103, 5, 8, 0), (31, 5, 9, 0), (35, 5, 10, 2), (38, 5, 11, 2), (41, 5, 12, 2), (44, 5, 13, 2), (71, 5, 14, 0), (78, 5, 15, 0), (97, 5, 16, 0), (47, 5, 17, 2), (131, 5, 18, 1), (117, 5, 19, 1), (121, 5, 20, 0), (170, 5, 21, 0), (173, 5, 22, 0), (176, 5, 23, 0), (179, 5, 24, 0), (182, 5, 25, 0), (185, 5, 26, 0), (50, 5, 27, 2), (53, 5, 28, 2), (56, 5, 29, 2), (59, 5, 30, 2), (230, 5, 31, 0)], [(140, 65535), (166, 61166), (236, 1103515245), (237, 2147483647), (238, 65536)], [(62, 4000000000000000000), (210, 10)], [(67, 99), (74, 96), (106, 107), (81, 103), (100, 106), (89, 104), (85, 98), (93, 105), (110, 111), (124, 109), (128, 110), (114, 108), (148, 100), (145, 119), (134, 116), (137, 117), (141, 118), (151, 101), (154, 120), (160, 127), (157, 115), (163, 126), (167, 129), (195, 134), (188, 133), (192, 132), (199, 138), (202, 141), (206, 97), (212, 144), (223, 146), (216, 147), (219, 148), (226, 149), (233, 152)])
def tX0_mirrored : xT := [(0, .iload_n 0, 1, [], 0), (1, .sipush 13107, 3, [(13107, 0)], 0), (4, .iand, 1, [], 0), (5, .iconst 2, 1, [(2, 0)], 0), (6, .ishl, 1, [], 0), (7, .iload_n 0, 1, [], 0), (8, .ldc 9, 2, [(52428, 0)], 0), (10, .iand, 1, [], 0), (11, .iconst 2, 1, [(2, 0)], 0), (12, .ishr, 1, [], 0), (13, .ior, 1, [], 0), (14, .istore_n 1, 1, [], 0), (15, .iload_n 1, 1, [], 0), (16, .sipush 21845, 3, [(21845, 0)], 0), (19, .iand, 1, [], 0), (20, .iconst 1, 1, [(1, 0)], 0), (21, .ishl, 1, [], 0), (22, .iload_n 1, 1, [], 0), (23, .ldc 10, 2, [(43690, 0)], 0), (25, .iand, 1, [], 0), (26, .iconst 1, 1, [(1, 0)], 0), (27, .ishr, 1, [], 0), (28, .ior, 1, [], 0), (29, .ireturn, 1, [], 0)]
def mX0_mirrored : xM := (yX0_mirrored, cX0_mirrored, 2, (some .int), tX0_mirrored, KX0, true)
abbrev nX0_mirrored : Nat := 1
def tX0_flipped : xT := [(0, .iload_n 0, 1, [], 0), (1, .sipush 255, 3, [(255, 0)], 0), (4, .iand, 1, [], 0), (5, .bipush 8, 2, [(8, 0)], 0), (7, .ishl, 1, [], 0), (8, .iload_n 0, 1, [], 0), (9, .ldc 11, 2, [(65280, 0)], 0), (11, .iand, 1, [], 0), (12, .bipush 8, 2, [(8, 0)], 0), (14, .ishr, 1, [], 0), (15, .ior, 1, [], 0), (16, .istore_n 1, 1, [], 0), (17, .iload_n 1, 1, [], 0), (18, .sipush 3855, 3, [(3855, 0)], 0), (21, .iand, 1, [], 0), (22, .iconst 4, 1, [(4, 0)], 0), (23, .ishl, 1, [], 0), (24, .iload_n 1, 1, [], 0), (25, .ldc 12, 2, [(61680, 0)], 0), (27, .iand, 1, [], 0), (28, .iconst 4, 1, [(4, 0)], 0), (29, .ishr, 1, [], 0), (30, .ior, 1, [], 0), (31, .ireturn, 1, [], 0)]
def mX0_flipped : xM := (yX0_flipped, cX0_flipped, 2, (some .int), tX0_flipped, KX0, true)
abbrev nX0_flipped : Nat := 2
def tX0_shifted : xT := [(0, .iload_n 0, 1, [], 0), (1, .istore_n 2, 1, [], 0), (2, .iconst 0, 1, [(0, 0)], 0), (3, .istore_n 3, 1, [], 0), (4, .iload_n 3, 1, [], 0), (5, .iload_n 1, 1, [], 0), (6, .if_icmp .ge 23, 3, [(0, 29)], 0), (9, .iload_n 2, 1, [], 0), (10, .ldc 15, 2, [((-34953), 0)], 0), (12, .iand, 1, [], 0), (13, .iconst 1, 1, [(1, 0)], 0), (14, .ishl, 1, [], 0), (15, .iload_n 2, 1, [], 0), (16, .ldc 16, 2, [(34952, 0)], 0), (18, .iand, 1, [], 0), (19, .iconst 3, 1, [(3, 0)], 0), (20, .ishr, 1, [], 0), (21, .ior, 1, [], 0), (22, .istore_n 2, 1, [], 0), (23, .iinc 3 1, 3, [(1, 0)], 0), (26, .goto (-22), 3, [(0, 4)], 0), (29, .iload_n 2, 1, [], 0), (30, .ireturn, 1, [], 0)]
def mX0_shifted : xM := (yX0_shifted, cX0_shifted, 4, (some .int), tX0_shifted, KX0, true)
abbrev nX0_shifted : Nat := 3
def tX0_grown : xT := [(0, .iload_n 0, 1, [], 0), (1, .istore_n 2, 1, [], 0), (2, .iconst 0, 1, [(0, 0)], 0), (3, .istore_n 3, 1, [], 0), (4, .iload_n 3, 1, [], 0), (5, .bipush 16, 2, [(16, 0)], 0), (7, .if_icmp .ge 40, 3, [(0, 47)], 0), (10, .iload_n 2, 1, [], 0), (11, .ldc 15, 2, [((-34953), 0)], 0), (13, .iand, 1, [], 0), (14, .iconst 1, 1, [(1, 0)], 0), (15, .ishl, 1, [], 0), (16, .iload_n 2, 1, [], 0), (17, .sipush (-4370), 3, [((-4370), 0)], 0), (20, .iand, 1, [], 0), (21, .iconst 1, 1, [(1, 0)], 0), (22, .ishr, 1, [], 0), (23, .ior, 1, [], 0), (24, .istore 4, 2, [], 0), (26, .iload_n 2, 1, [], 0), (27, .iload 4, 2, [], 0), (29, .iload_n 2, 1, [], 0), (30, .iconst 4, 1, [(4, 0)], 0), (31, .ishl, 1, [], 0), (32, .ior, 1, [], 0), (33, .iload_n 2, 1, [], 0), (34, .iconst 4, 1, [(4, 0)], 0), (35, .ishr, 1, [], 0), (36, .ior, 1, [], 0), (37, .iload_n 1, 1, [], 0), (38, .iand, 1, [], 0), (39, .ior, 1, [], 0), (40, .istore_n 2, 1, [], 0), (41, .iinc 3 1, 3, [(1, 0)], 0), (44, .goto (-40), 3, [(0, 4)], 0), (47, .iload_n 2, 1, [], 0), (48, .ireturn, 1, [], 0)]
def mX0_grown : xM := (yX0_grown, cX0_grown, 5, (some .int), tX0_grown, KX0, true)
abbrev nX0_grown : Nat := 4
def tX0_groups : xT := [(0, .iload_n 0, 1, [], 0), (1, .istore_n 1, 1, [], 0), (2, .iconst 0, 1, [(0, 0)], 0), (3, .istore_n 2, 1, [], 0), (4, .iload_n 1, 1, [], 0), (5, .ifCond .eq 28, 3, [(0, 33)], 0), (8, .iload_n 2, 1, [], 0), (9, .bipush 16, 2, [(16, 0)], 0), (11, .if_icmp .ge 22, 3, [(0, 33)], 0), (14, .iload_n 1, 1, [], 0), (15, .iload_n 1, 1, [], 0), (16, .iload_n 1, 1, [], 0), (17, .ineg, 1, [], 0), (18, .iand, 1, [], 0), (19, .iload_n 1, 1, [], 0), (20, .invokestatic 17, 3, [(0, 4)], 0), (23, .iconst (-1), 1, [((-1), 0)], 0), (24, .ixor, 1, [], 0), (25, .iand, 1, [], 0), (26, .istore_n 1, 1, [], 0), (27, .iinc 2 1, 3, [(1, 0)], 0), (30, .goto (-26), 3, [(0, 4)], 0), (33, .iload_n 2, 1, [], 0), (34, .ireturn, 1, [], 0)]
def mX0_groups : xM := (yX0_groups, cX0_groups, 3, (some .int), tX0_groups, KX0, true)
abbrev nX0_groups : Nat := 5
def tX1_becomes : xT := [(0, .iconst 0, 1, [(0, 0)], 0), (1, .istore_n 2, 1, [], 0), (2, .iload_n 2, 1, [], 0), (3, .aload_n 1, 1, [], 0), (4, .getfield 34, 3, [(0, 0), (0, 6), (0, 0)], 0), (7, .if_icmp .ge 75, 3, [(0, 82)], 0), (10, .iload_n 2, 1, [], 0), (11, .bipush 8, 2, [(8, 0)], 0), (13, .if_icmp .ge 69, 3, [(0, 82)], 0), (16, .aload_n 0, 1, [], 0), (17, .getfield 9, 3, [(0, 0), (0, 0), (0, 2)], 0), (20, .iload_n 2, 1, [], 0), (21, .aload_n 1, 1, [], 0), (22, .getfield 9, 3, [(0, 0), (0, 0), (0, 2)], 0), (25, .iload_n 2, 1, [], 0), (26, .iaload, 1, [], 0), (27, .iastore, 1, [], 0), (28, .aload_n 0, 1, [], 0), (29, .getfield 15, 3, [(0, 0), (0, 1), (0, 2)], 0), (32, .iload_n 2, 1, [], 0), (33, .aload_n 1, 1, [], 0), (34, .getfield 15, 3, [(0, 0), (0, 1), (0, 2)], 0), (37, .iload_n 2, 1, [], 0), (38, .iaload, 1, [], 0), (39, .iastore, 1, [], 0), (40, .aload_n 0, 1, [], 0), (41, .getfield 18, 3, [(0, 0), (0, 2), (0, 2)], 0), (44, .iload_n 2, 1, [], 0), (45, .aload_n 1, 1, [], 0), (46, .getfield 18, 3, [(0, 0), (0, 2), (0, 2)], 0), (49, .iload_n 2, 1, [], 0), (50, .iaload, 1, [], 0), (51, .iastore, 1, [], 0), (52, .aload_n 0, 1, [], 0), (53, .getfield 21, 3, [(0, 0), (0, 3), (0, 2)], 0), (56, .iload_n 2, 1, [], 0), (57, .aload_n 1, 1, [], 0), (58, .getfield 21, 3, [(0, 0), (0, 3), (0, 2)], 0), (61, .iload_n 2, 1, [], 0), (62, .iaload, 1, [], 0), (63, .iastore, 1, [], 0), (64, .aload_n 0, 1, [], 0), (65, .getfield 24, 3, [(0, 0), (0, 4), (0, 2)], 0), (68, .iload_n 2, 1, [], 0), (69, .aload_n 1, 1, [], 0), (70, .getfield 24, 3, [(0, 0), (0, 4), (0, 2)], 0), (73, .iload_n 2, 1, [], 0), (74, .iaload, 1, [], 0), (75, .iastore, 1, [], 0), (76, .iinc 2 1, 3, [(1, 0)], 0), (79, .goto (-77), 3, [(0, 2)], 0), (82, .iconst 0, 1, [(0, 0)], 0), (83, .istore_n 2, 1, [], 0), (84, .iload_n 2, 1, [], 0), (85, .aload_n 1, 1, [], 0), (86, .getfield 37, 3, [(0, 0), (0, 7), (0, 0)], 0), (89, .if_icmp .ge 27, 3, [(0, 116)], 0), (92, .iload_n 2, 1, [], 0), (93, .bipush 6, 2, [(6, 0)], 0), (95, .if_icmp .ge 21, 3, [(0, 116)], 0), (98, .aload_n 0, 1, [], 0), (99, .getfield 27, 3, [(0, 0), (0, 5), (0, 2)], 0), (102, .iload_n 2, 1, [], 0), (103, .aload_n 1, 1, [], 0), (104, .getfield 27, 3, [(0, 0), (0, 5), (0, 2)], 0), (107, .iload_n 2, 1, [], 0), (108, .iaload, 1, [], 0), (109, .iastore, 1, [], 0), (110, .iinc 2 1, 3, [(1, 0)], 0), (113, .goto (-29), 3, [(0, 84)], 0), (116, .aload_n 0, 1, [], 0), (117, .aload_n 1, 1, [], 0), (118, .getfield 34, 3, [(0, 0), (0, 6), (0, 0)], 0), (121, .putfield 34, 3, [(0, 0), (0, 6), (0, 0)], 0), (124, .aload_n 0, 1, [], 0), (125, .aload_n 1, 1, [], 0), (126, .getfield 37, 3, [(0, 0), (0, 7), (0, 0)], 0), (129, .putfield 37, 3, [(0, 0), (0, 7), (0, 0)], 0), (132, .aload_n 0, 1, [], 0), (133, .aload_n 1, 1, [], 0), (134, .getfield 30, 3, [(0, 0), (0, 8), (0, 0)], 0), (137, .putfield 30, 3, [(0, 0), (0, 8), (0, 0)], 0), (140, .return_, 1, [], 0)]
def mX1_becomes : xM := (yX1_becomes, cX1_becomes, 3, none, tX1_becomes, KX1, false)
abbrev nX1_becomes : Nat := 6
def tX1_addsSlide : xT := [(0, .iload_n 1, 1, [], 0), (1, .ifCond .lt 17, 3, [(0, 18)], 0), (4, .iload_n 1, 1, [], 0), (5, .iconst 5, 1, [(5, 0)], 0), (6, .if_icmp .gt 12, 3, [(0, 18)], 0), (9, .aload_n 0, 1, [], 0), (10, .getfield 34, 3, [(0, 0), (0, 6), (0, 0)], 0), (13, .bipush 8, 2, [(8, 0)], 0), (15, .if_icmp .lt 5, 3, [(0, 20)], 0), (18, .iconst 0, 1, [(0, 0)], 0), (19, .ireturn, 1, [], 0), (20, .aload_n 0, 1, [], 0), (21, .getfield 9, 3, [(0, 0), (0, 0), (0, 2)], 0), (24, .aload_n 0, 1, [], 0), (25, .getfield 34, 3, [(0, 0), (0, 6), (0, 0)], 0), (28, .iload_n 1, 1, [], 0), (29, .iastore, 1, [], 0), (30, .aload_n 0, 1, [], 0), (31, .getfield 15, 3, [(0, 0), (0, 1), (0, 2)], 0), (34, .aload_n 0, 1, [], 0), (35, .getfield 34, 3, [(0, 0), (0, 6), (0, 0)], 0), (38, .iload_n 2, 1, [], 0), (39, .iastore, 1, [], 0), (40, .aload_n 0, 1, [], 0), (41, .getfield 21, 3, [(0, 0), (0, 3), (0, 2)], 0), (44, .aload_n 0, 1, [], 0), (45, .getfield 34, 3, [(0, 0), (0, 6), (0, 0)], 0), (48, .iload_n 3, 1, [], 0), (49, .iastore, 1, [], 0), (50, .aload_n 0, 1, [], 0), (51, .getfield 18, 3, [(0, 0), (0, 2), (0, 2)], 0), (54, .aload_n 0, 1, [], 0), (55, .getfield 34, 3, [(0, 0), (0, 6), (0, 0)], 0), (58, .iload 4, 2, [], 0), (60, .iastore, 1, [], 0), (61, .aload_n 0, 1, [], 0), (62, .getfield 24, 3, [(0, 0), (0, 4), (0, 2)], 0), (65, .aload_n 0, 1, [], 0), (66, .getfield 34, 3, [(0, 0), (0, 6), (0, 0)], 0), (69, .iconst 0, 1, [(0, 0)], 0), (70, .iastore, 1, [], 0), (71, .aload_n 0, 1, [], 0), (72, .dup, 1, [], 0), (73, .getfield 34, 3, [(0, 0), (0, 6), (0, 0)], 0), (76, .iconst 1, 1, [(1, 0)], 0), (77, .iadd, 1, [], 0), (78, .putfield 34, 3, [(0, 0), (0, 6), (0, 0)], 0), (81, .iconst 1, 1, [(1, 0)], 0), (82, .ireturn, 1, [], 0)]
def mX1_addsSlide : xM := (yX1_addsSlide, cX1_addsSlide, 5, (some .boolean), tX1_addsSlide, KX1, false)
abbrev nX1_addsSlide : Nat := 7
def tX1_addsWanted : xT := [(0, .aload_n 0, 1, [], 0), (1, .getfield 37, 3, [(0, 0), (0, 7), (0, 0)], 0), (4, .bipush 6, 2, [(6, 0)], 0), (6, .if_icmp .lt 5, 3, [(0, 11)], 0), (9, .iconst 0, 1, [(0, 0)], 0), (10, .ireturn, 1, [], 0), (11, .aload_n 0, 1, [], 0), (12, .getfield 27, 3, [(0, 0), (0, 5), (0, 2)], 0), (15, .aload_n 0, 1, [], 0), (16, .getfield 37, 3, [(0, 0), (0, 7), (0, 0)], 0), (19, .iload_n 1, 1, [], 0), (20, .iastore, 1, [], 0), (21, .aload_n 0, 1, [], 0), (22, .dup, 1, [], 0), (23, .getfield 37, 3, [(0, 0), (0, 7), (0, 0)], 0), (26, .iconst 1, 1, [(1, 0)], 0), (27, .iadd, 1, [], 0), (28, .putfield 37, 3, [(0, 0), (0, 7), (0, 0)], 0), (31, .iconst 1, 1, [(1, 0)], 0), (32, .ireturn, 1, [], 0)]
def mX1_addsWanted : xM := (yX1_addsWanted, cX1_addsWanted, 2, (some .boolean), tX1_addsWanted, KX1, false)
abbrev nX1_addsWanted : Nat := 8
def tX1_heats : xT := [(0, .iload_n 1, 1, [], 0), (1, .iconst 1, 1, [(1, 0)], 0), (2, .if_icmp .lt 9, 3, [(0, 11)], 0), (5, .iload_n 1, 1, [], 0), (6, .bipush 9, 2, [(9, 0)], 0), (8, .if_icmp .le 5, 3, [(0, 13)], 0), (11, .iconst 0, 1, [(0, 0)], 0), (12, .ireturn, 1, [], 0), (13, .aload_n 0, 1, [], 0), (14, .iload_n 1, 1, [], 0), (15, .putfield 30, 3, [(0, 0), (0, 8), (0, 0)], 0), (18, .iconst 1, 1, [(1, 0)], 0), (19, .ireturn, 1, [], 0)]
def mX1_heats : xM := (yX1_heats, cX1_heats, 2, (some .boolean), tX1_heats, KX1, false)
abbrev nX1_heats : Nat := 9
def tX1_has : xT := [(0, .iload_n 1, 1, [], 0), (1, .ifCond .lt 15, 3, [(0, 16)], 0), (4, .iload_n 1, 1, [], 0), (5, .aload_n 0, 1, [], 0), (6, .getfield 34, 3, [(0, 0), (0, 6), (0, 0)], 0), (9, .if_icmp .ge 7, 3, [(0, 16)], 0), (12, .iconst 1, 1, [(1, 0)], 0), (13, .goto 4, 3, [(0, 17)], 0), (16, .iconst 0, 1, [(0, 0)], 0), (17, .ireturn, 1, [], 0)]
def mX1_has : xM := (yX1_has, cX1_has, 2, (some .boolean), tX1_has, KX1, false)
abbrev nX1_has : Nat := 10
def tX1_hasAll : xT := [(0, .iload_n 1, 1, [], 0), (1, .aload_n 0, 1, [], 0), (2, .getfield 34, 3, [(0, 0), (0, 6), (0, 0)], 0), (5, .iushr, 1, [], 0), (6, .ifCond .ne 7, 3, [(0, 13)], 0), (9, .iconst 1, 1, [(1, 0)], 0), (10, .goto 4, 3, [(0, 14)], 0), (13, .iconst 0, 1, [(0, 0)], 0), (14, .ireturn, 1, [], 0)]
def mX1_hasAll : xM := (yX1_hasAll, cX1_hasAll, 2, (some .boolean), tX1_hasAll, KX1, false)
abbrev nX1_hasAll : Nat := 11
def tX1_hasWanted : xT := [(0, .iload_n 1, 1, [], 0), (1, .ifCond .lt 15, 3, [(0, 16)], 0), (4, .iload_n 1, 1, [], 0), (5, .aload_n 0, 1, [], 0), (6, .getfield 37, 3, [(0, 0), (0, 7), (0, 0)], 0), (9, .if_icmp .ge 7, 3, [(0, 16)], 0), (12, .iconst 1, 1, [(1, 0)], 0), (13, .goto 4, 3, [(0, 17)], 0), (16, .iconst 0, 1, [(0, 0)], 0), (17, .ireturn, 1, [], 0)]
def mX1_hasWanted : xM := (yX1_hasWanted, cX1_hasWanted, 2, (some .boolean), tX1_hasWanted, KX1, false)
abbrev nX1_hasWanted : Nat := 12
def tJ6_bitCount_0f7a4 : xT := [(0, .iload_n 0, 1, [], 0), (1, .iload_n 0, 1, [], 0), (2, .iconst 1, 1, [(1, 0)], 0), (3, .iushr, 1, [], 0), (4, .ldc_w 265, 3, [(1431655765, 0)], 0), (7, .iand, 1, [], 0), (8, .isub, 1, [], 0), (9, .istore_n 0, 1, [], 0), (10, .iload_n 0, 1, [], 0), (11, .ldc_w 266, 3, [(858993459, 0)], 0), (14, .iand, 1, [], 0), (15, .iload_n 0, 1, [], 0), (16, .iconst 2, 1, [(2, 0)], 0), (17, .iushr, 1, [], 0), (18, .ldc_w 266, 3, [(858993459, 0)], 0), (21, .iand, 1, [], 0), (22, .iadd, 1, [], 0), (23, .istore_n 0, 1, [], 0), (24, .iload_n 0, 1, [], 0), (25, .iload_n 0, 1, [], 0), (26, .iconst 4, 1, [(4, 0)], 0), (27, .iushr, 1, [], 0), (28, .iadd, 1, [], 0), (29, .ldc_w 267, 3, [(252645135, 0)], 0), (32, .iand, 1, [], 0), (33, .istore_n 0, 1, [], 0), (34, .iload_n 0, 1, [], 0), (35, .iload_n 0, 1, [], 0), (36, .bipush 8, 2, [(8, 0)], 0), (38, .iushr, 1, [], 0), (39, .iadd, 1, [], 0), (40, .istore_n 0, 1, [], 0), (41, .iload_n 0, 1, [], 0), (42, .iload_n 0, 1, [], 0), (43, .bipush 16, 2, [(16, 0)], 0), (45, .iushr, 1, [], 0), (46, .iadd, 1, [], 0), (47, .istore_n 0, 1, [], 0), (48, .iload_n 0, 1, [], 0), (49, .bipush 63, 2, [(63, 0)], 0), (51, .iand, 1, [], 0), (52, .ireturn, 1, [], 0)]
def mJ6_bitCount_0f7a4 : xM := (yJ6_bitCount_0f7a4, cJ6_bitCount_0f7a4, 1, (some .int), tJ6_bitCount_0f7a4, KJ6, true)
abbrev nJ6_bitCount_0f7a4 : Nat := 13
def tX1_isProjectable : xT := [(0, .aload_n 0, 1, [], 0), (1, .iload_n 1, 1, [], 0), (2, .invokevirtual 40, 3, [(0, 11)], 0), (5, .ifCond .eq 19, 3, [(0, 24)], 0), (8, .iload_n 1, 1, [], 0), (9, .ifCond .eq 15, 3, [(0, 24)], 0), (12, .iload_n 1, 1, [], 0), (13, .invokestatic 44, 3, [(0, 13)], 0), (16, .iconst 4, 1, [(4, 0)], 0), (17, .if_icmp .gt 7, 3, [(0, 24)], 0), (20, .iconst 1, 1, [(1, 0)], 0), (21, .goto 4, 3, [(0, 25)], 0), (24, .iconst 0, 1, [(0, 0)], 0), (25, .ireturn, 1, [], 0)]
def mX1_isProjectable : xM := (yX1_isProjectable, cX1_isProjectable, 2, (some .boolean), tX1_isProjectable, KX1, false)
abbrev nX1_isProjectable : Nat := 14
def tX1_isWanted : xT := [(0, .iconst 0, 1, [(0, 0)], 0), (1, .istore_n 2, 1, [], 0), (2, .iload_n 2, 1, [], 0), (3, .aload_n 0, 1, [], 0), (4, .getfield 37, 3, [(0, 0), (0, 7), (0, 0)], 0), (7, .if_icmp .ge 21, 3, [(0, 28)], 0), (10, .aload_n 0, 1, [], 0), (11, .getfield 27, 3, [(0, 0), (0, 5), (0, 2)], 0), (14, .iload_n 2, 1, [], 0), (15, .iaload, 1, [], 0), (16, .iload_n 1, 1, [], 0), (17, .if_icmp .ne 5, 3, [(0, 22)], 0), (20, .iconst 1, 1, [(1, 0)], 0), (21, .ireturn, 1, [], 0), (22, .iinc 2 1, 3, [(1, 0)], 0), (25, .goto (-23), 3, [(0, 2)], 0), (28, .iconst 0, 1, [(0, 0)], 0), (29, .ireturn, 1, [], 0)]
def mX1_isWanted : xM := (yX1_isWanted, cX1_isWanted, 3, (some .boolean), tX1_isWanted, KX1, false)
abbrev nX1_isWanted : Nat := 15
def tX1_wantedPicture : xT := [(0, .aload_n 0, 1, [], 0), (1, .iload_n 1, 1, [], 0), (2, .invokevirtual 50, 3, [(0, 12)], 0), (5, .ifCond .eq 12, 3, [(0, 17)], 0), (8, .aload_n 0, 1, [], 0), (9, .getfield 27, 3, [(0, 0), (0, 5), (0, 2)], 0), (12, .iload_n 1, 1, [], 0), (13, .iaload, 1, [], 0), (14, .goto 4, 3, [(0, 18)], 0), (17, .iconst 0, 1, [(0, 0)], 0), (18, .ireturn, 1, [], 0)]
def mX1_wantedPicture : xM := (yX1_wantedPicture, cX1_wantedPicture, 2, (some .int), tX1_wantedPicture, KX1, false)
abbrev nX1_wantedPicture : Nat := 16
def tX1_cracked : xT := [(0, .aload_n 0, 1, [], 0), (1, .getfield 18, 3, [(0, 0), (0, 2), (0, 2)], 0), (4, .iload_n 1, 1, [], 0), (5, .iaload, 1, [], 0), (6, .iconst 1, 1, [(1, 0)], 0), (7, .aload_n 0, 1, [], 0), (8, .getfield 15, 3, [(0, 0), (0, 1), (0, 2)], 0), (11, .iload_n 1, 1, [], 0), (12, .iaload, 1, [], 0), (13, .ishl, 1, [], 0), (14, .iconst (-1), 1, [((-1), 0)], 0), (15, .ixor, 1, [], 0), (16, .iand, 1, [], 0), (17, .ireturn, 1, [], 0)]
def mX1_cracked : xM := (yX1_cracked, cX1_cracked, 2, (some .int), tX1_cracked, KX1, false)
abbrev nX1_cracked : Nat := 17
def tX1_onSlide : xT := [(0, .aload_n 0, 1, [], 0), (1, .iload_n 1, 1, [], 0), (2, .invokevirtual 53, 3, [(0, 10)], 0), (5, .ifCond .ne 5, 3, [(0, 10)], 0), (8, .iconst 0, 1, [(0, 0)], 0), (9, .ireturn, 1, [], 0), (10, .aload_n 0, 1, [], 0), (11, .getfield 18, 3, [(0, 0), (0, 2), (0, 2)], 0), (14, .iload_n 1, 1, [], 0), (15, .iaload, 1, [], 0), (16, .istore_n 2, 1, [], 0), (17, .aload_n 0, 1, [], 0), (18, .getfield 9, 3, [(0, 0), (0, 0), (0, 2)], 0), (21, .iload_n 1, 1, [], 0), (22, .iaload, 1, [], 0), (23, .tableswitch 76 1 5 #[33, 38, 46, 53, 59], 33, [(0, 99), (1, 56), (2, 61), (3, 69), (4, 76), (5, 82)], 0), (56, .iload_n 2, 1, [], 0), (57, .invokestatic 59, 3, [(0, 1)], 0), (60, .ireturn, 1, [], 0), (61, .iload_n 2, 1, [], 0), (62, .invokestatic 59, 3, [(0, 1)], 0), (65, .invokestatic 64, 3, [(0, 2)], 0), (68, .ireturn, 1, [], 0), (69, .ldc 67, 2, [(65535, 0)], 0), (71, .iload_n 2, 1, [], 0), (72, .iconst (-1), 1, [((-1), 0)], 0), (73, .ixor, 1, [], 0), (74, .iand, 1, [], 0), (75, .ireturn, 1, [], 0), (76, .aload_n 0, 1, [], 0), (77, .iload_n 1, 1, [], 0), (78, .invokevirtual 68, 3, [(0, 17)], 0), (81, .ireturn, 1, [], 0), (82, .aload_n 0, 1, [], 0), (83, .iload_n 1, 1, [], 0), (84, .invokevirtual 68, 3, [(0, 17)], 0), (87, .aload_n 0, 1, [], 0), (88, .getfield 15, 3, [(0, 0), (0, 1), (0, 2)], 0), (91, .iload_n 1, 1, [], 0), (92, .iaload, 1, [], 0), (93, .iconst 4, 1, [(4, 0)], 0), (94, .irem, 1, [], 0), (95, .invokestatic 71, 3, [(0, 3)], 0), (98, .ireturn, 1, [], 0), (99, .iload_n 2, 1, [], 0), (100, .ireturn, 1, [], 0)]
def mX1_onSlide : xM := (yX1_onSlide, cX1_onSlide, 3, (some .int), tX1_onSlide, KX1, false)
abbrev nX1_onSlide : Nat := 18
def tX1_told : xT := [(0, .aload_n 0, 1, [], 0), (1, .iload_n 1, 1, [], 0), (2, .invokevirtual 53, 3, [(0, 10)], 0), (5, .ifCond .ne 5, 3, [(0, 10)], 0), (8, .iconst 0, 1, [(0, 0)], 0), (9, .ireturn, 1, [], 0), (10, .iload_n 2, 1, [], 0), (11, .tableswitch 67 0 4 #[33, 40, 47, 54, 60], 33, [(0, 78), (0, 44), (1, 51), (2, 58), (3, 65), (4, 71)], 0), (44, .aload_n 0, 1, [], 0), (45, .getfield 9, 3, [(0, 0), (0, 0), (0, 2)], 0), (48, .iload_n 1, 1, [], 0), (49, .iaload, 1, [], 0), (50, .ireturn, 1, [], 0), (51, .aload_n 0, 1, [], 0), (52, .getfield 15, 3, [(0, 0), (0, 1), (0, 2)], 0), (55, .iload_n 1, 1, [], 0), (56, .iaload, 1, [], 0), (57, .ireturn, 1, [], 0), (58, .aload_n 0, 1, [], 0), (59, .getfield 18, 3, [(0, 0), (0, 2), (0, 2)], 0), (62, .iload_n 1, 1, [], 0), (63, .iaload, 1, [], 0), (64, .ireturn, 1, [], 0), (65, .aload_n 0, 1, [], 0), (66, .iload_n 1, 1, [], 0), (67, .invokevirtual 56, 3, [(0, 18)], 0), (70, .ireturn, 1, [], 0), (71, .aload_n 0, 1, [], 0), (72, .getfield 21, 3, [(0, 0), (0, 3), (0, 2)], 0), (75, .iload_n 1, 1, [], 0), (76, .iaload, 1, [], 0), (77, .ireturn, 1, [], 0), (78, .aload_n 0, 1, [], 0), (79, .getfield 24, 3, [(0, 0), (0, 4), (0, 2)], 0), (82, .iload_n 1, 1, [], 0), (83, .iaload, 1, [], 0), (84, .ireturn, 1, [], 0)]
def mX1_told : xM := (yX1_told, cX1_told, 3, (some .int), tX1_told, KX1, false)
abbrev nX1_told : Nat := 19
def tX1_repriced : xT := [(0, .aload_n 0, 1, [], 0), (1, .iload_n 1, 1, [], 0), (2, .invokevirtual 53, 3, [(0, 10)], 0), (5, .ifCond .ne 5, 3, [(0, 10)], 0), (8, .iconst 0, 1, [(0, 0)], 0), (9, .ireturn, 1, [], 0), (10, .aload_n 0, 1, [], 0), (11, .getfield 21, 3, [(0, 0), (0, 3), (0, 2)], 0), (14, .iload_n 1, 1, [], 0), (15, .iaload, 1, [], 0), (16, .istore_n 3, 1, [], 0), (17, .aload_n 0, 1, [], 0), (18, .getfield 21, 3, [(0, 0), (0, 3), (0, 2)], 0), (21, .iload_n 1, 1, [], 0), (22, .iload_n 2, 1, [], 0), (23, .iastore, 1, [], 0), (24, .iload_n 3, 1, [], 0), (25, .ireturn, 1, [], 0)]
def mX1_repriced : xM := (yX1_repriced, cX1_repriced, 4, (some .int), tX1_repriced, KX1, false)
abbrev nX1_repriced : Nat := 20
def tX1_laid : xT := [(0, .iconst 0, 1, [(0, 0)], 0), (1, .istore_n 3, 1, [], 0), (2, .iconst 0, 1, [(0, 0)], 0), (3, .istore 4, 2, [], 0), (5, .iload 4, 2, [], 0), (7, .aload_n 0, 1, [], 0), (8, .getfield 34, 3, [(0, 0), (0, 6), (0, 0)], 0), (11, .if_icmp .ge 51, 3, [(0, 62)], 0), (14, .iload_n 1, 1, [], 0), (15, .iload 4, 2, [], 0), (17, .ishr, 1, [], 0), (18, .iconst 1, 1, [(1, 0)], 0), (19, .iand, 1, [], 0), (20, .ifCond .ne 6, 3, [(0, 26)], 0), (23, .goto 33, 3, [(0, 56)], 0), (26, .aload_n 0, 1, [], 0), (27, .iload 4, 2, [], 0), (29, .invokevirtual 56, 3, [(0, 18)], 0), (32, .istore 5, 2, [], 0), (34, .iload_n 3, 1, [], 0), (35, .iload_n 2, 1, [], 0), (36, .iload 4, 2, [], 0), (38, .ishr, 1, [], 0), (39, .iconst 1, 1, [(1, 0)], 0), (40, .iand, 1, [], 0), (41, .ifCond .eq 11, 3, [(0, 52)], 0), (44, .iload 5, 2, [], 0), (46, .invokestatic 59, 3, [(0, 1)], 0), (49, .goto 5, 3, [(0, 54)], 0), (52, .iload 5, 2, [], 0), (54, .ior, 1, [], 0), (55, .istore_n 3, 1, [], 0), (56, .iinc 4 1, 3, [(1, 0)], 0), (59, .goto (-54), 3, [(0, 5)], 0), (62, .iload_n 3, 1, [], 0), (63, .ireturn, 1, [], 0)]
def mX1_laid : xM := (yX1_laid, cX1_laid, 6, (some .int), tX1_laid, KX1, false)
abbrev nX1_laid : Nat := 21
def tX1_wear : xT := [(0, .aload_n 0, 1, [], 0), (1, .getfield 24, 3, [(0, 0), (0, 4), (0, 2)], 0), (4, .iload_n 1, 1, [], 0), (5, .iaload, 1, [], 0), (6, .iconst 1, 1, [(1, 0)], 0), (7, .iadd, 1, [], 0), (8, .bipush 99, 2, [(99, 0)], 0), (10, .invokestatic 82, 3, [(0, 0), (0, 0)], 0), (13, .istore_n 2, 1, [], 0), (14, .aload_n 0, 1, [], 0), (15, .getfield 24, 3, [(0, 0), (0, 4), (0, 2)], 0), (18, .iload_n 1, 1, [], 0), (19, .iload_n 2, 1, [], 0), (20, .iastore, 1, [], 0), (21, .aload_n 0, 1, [], 0), (22, .getfield 30, 3, [(0, 0), (0, 8), (0, 0)], 0), (25, .ifCond .le 29, 3, [(0, 54)], 0), (28, .iload_n 2, 1, [], 0), (29, .aload_n 0, 1, [], 0), (30, .getfield 30, 3, [(0, 0), (0, 8), (0, 0)], 0), (33, .irem, 1, [], 0), (34, .ifCond .ne 20, 3, [(0, 54)], 0), (37, .aload_n 0, 1, [], 0), (38, .getfield 18, 3, [(0, 0), (0, 2), (0, 2)], 0), (41, .iload_n 1, 1, [], 0), (42, .dup2, 1, [], 0), (43, .iaload, 1, [], 0), (44, .iconst 1, 1, [(1, 0)], 0), (45, .iload_n 2, 1, [], 0), (46, .bipush 16, 2, [(16, 0)], 0), (48, .irem, 1, [], 0), (49, .ishl, 1, [], 0), (50, .iconst (-1), 1, [((-1), 0)], 0), (51, .ixor, 1, [], 0), (52, .iand, 1, [], 0), (53, .iastore, 1, [], 0), (54, .return_, 1, [], 0)]
def mX1_wear : xM := (yX1_wear, cX1_wear, 3, none, tX1_wear, KX1, false)
abbrev nX1_wear : Nat := 22
def tX1_projected : xT := [(0, .aload_n 0, 1, [], 0), (1, .iload_n 1, 1, [], 0), (2, .iconst 0, 1, [(0, 0)], 0), (3, .invokevirtual 75, 3, [(0, 21)], 0), (6, .istore_n 2, 1, [], 0), (7, .iconst 0, 1, [(0, 0)], 0), (8, .istore_n 3, 1, [], 0), (9, .iload_n 3, 1, [], 0), (10, .aload_n 0, 1, [], 0), (11, .getfield 34, 3, [(0, 0), (0, 6), (0, 0)], 0), (14, .if_icmp .ge 22, 3, [(0, 36)], 0), (17, .iload_n 1, 1, [], 0), (18, .iload_n 3, 1, [], 0), (19, .ishr, 1, [], 0), (20, .iconst 1, 1, [(1, 0)], 0), (21, .iand, 1, [], 0), (22, .ifCond .eq 8, 3, [(0, 30)], 0), (25, .aload_n 0, 1, [], 0), (26, .iload_n 3, 1, [], 0), (27, .invokevirtual 78, 3, [(0, 22)], 0), (30, .iinc 3 1, 3, [(1, 0)], 0), (33, .goto (-24), 3, [(0, 9)], 0), (36, .iload_n 2, 1, [], 0), (37, .ireturn, 1, [], 0)]
def mX1_projected : xM := (yX1_projected, cX1_projected, 4, (some .int), tX1_projected, KX1, false)
abbrev nX1_projected : Nat := 23
def tX1_nearestWanted : xT := [(0, .iconst (-1), 1, [((-1), 0)], 0), (1, .istore_n 2, 1, [], 0), (2, .bipush 17, 2, [(17, 0)], 0), (4, .istore_n 3, 1, [], 0), (5, .iconst 0, 1, [(0, 0)], 0), (6, .istore 4, 2, [], 0), (8, .iload 4, 2, [], 0), (10, .aload_n 0, 1, [], 0), (11, .getfield 37, 3, [(0, 0), (0, 7), (0, 0)], 0), (14, .if_icmp .ge 35, 3, [(0, 49)], 0), (17, .aload_n 0, 1, [], 0), (18, .getfield 27, 3, [(0, 0), (0, 5), (0, 2)], 0), (21, .iload 4, 2, [], 0), (23, .iaload, 1, [], 0), (24, .iload_n 1, 1, [], 0), (25, .ixor, 1, [], 0), (26, .invokestatic 44, 3, [(0, 13)], 0), (29, .istore 5, 2, [], 0), (31, .iload 5, 2, [], 0), (33, .iload_n 3, 1, [], 0), (34, .if_icmp .ge 9, 3, [(0, 43)], 0), (37, .iload 5, 2, [], 0), (39, .istore_n 3, 1, [], 0), (40, .iload 4, 2, [], 0), (42, .istore_n 2, 1, [], 0), (43, .iinc 4 1, 3, [(1, 0)], 0), (46, .goto (-38), 3, [(0, 8)], 0), (49, .iload_n 2, 1, [], 0), (50, .ireturn, 1, [], 0)]
def mX1_nearestWanted : xM := (yX1_nearestWanted, cX1_nearestWanted, 6, (some .int), tX1_nearestWanted, KX1, false)
abbrev nX1_nearestWanted : Nat := 24
def tX1_cracksToShow : xT := [(0, .aload_n 0, 1, [], 0), (1, .iload_n 1, 1, [], 0), (2, .iconst 1, 1, [(1, 0)], 0), (3, .iload_n 2, 1, [], 0), (4, .ishl, 1, [], 0), (5, .iconst (-1), 1, [((-1), 0)], 0), (6, .ixor, 1, [], 0), (7, .iand, 1, [], 0), (8, .iconst 0, 1, [(0, 0)], 0), (9, .invokevirtual 75, 3, [(0, 21)], 0), (12, .istore 4, 2, [], 0), (14, .aload_n 0, 1, [], 0), (15, .iload_n 2, 1, [], 0), (16, .invokevirtual 56, 3, [(0, 18)], 0), (19, .istore 5, 2, [], 0), (21, .iconst 0, 1, [(0, 0)], 0), (22, .istore 6, 2, [], 0), (24, .iconst 0, 1, [(0, 0)], 0), (25, .istore 7, 2, [], 0), (27, .iload 7, 2, [], 0), (29, .bipush 16, 2, [(16, 0)], 0), (31, .if_icmp .ge 40, 3, [(0, 71)], 0), (34, .iconst 1, 1, [(1, 0)], 0), (35, .iload 7, 2, [], 0), (37, .ishl, 1, [], 0), (38, .istore 8, 2, [], 0), (40, .iload 5, 2, [], 0), (42, .iload 8, 2, [], 0), (44, .iand, 1, [], 0), (45, .ifCond .eq 20, 3, [(0, 65)], 0), (48, .iload 4, 2, [], 0), (50, .iload 5, 2, [], 0), (52, .iload 8, 2, [], 0), (54, .iconst (-1), 1, [((-1), 0)], 0), (55, .ixor, 1, [], 0), (56, .iand, 1, [], 0), (57, .ior, 1, [], 0), (58, .iload_n 3, 1, [], 0), (59, .if_icmp .ne 6, 3, [(0, 65)], 0), (62, .iinc 6 1, 3, [(1, 0)], 0), (65, .iinc 7 1, 3, [(1, 0)], 0), (68, .goto (-41), 3, [(0, 27)], 0), (71, .iload 6, 2, [], 0), (73, .ireturn, 1, [], 0)]
def mX1_cracksToShow : xM := (yX1_cracksToShow, cX1_cracksToShow, 9, (some .int), tX1_cracksToShow, KX1, false)
abbrev nX1_cracksToShow : Nat := 25
def tX1_allUses : xT := [(0, .iconst 0, 1, [(0, 0)], 0), (1, .istore_n 1, 1, [], 0), (2, .iconst 0, 1, [(0, 0)], 0), (3, .istore_n 2, 1, [], 0), (4, .iload_n 2, 1, [], 0), (5, .aload_n 0, 1, [], 0), (6, .getfield 34, 3, [(0, 0), (0, 6), (0, 0)], 0), (9, .if_icmp .ge 18, 3, [(0, 27)], 0), (12, .iload_n 1, 1, [], 0), (13, .aload_n 0, 1, [], 0), (14, .getfield 24, 3, [(0, 0), (0, 4), (0, 2)], 0), (17, .iload_n 2, 1, [], 0), (18, .iaload, 1, [], 0), (19, .iadd, 1, [], 0), (20, .istore_n 1, 1, [], 0), (21, .iinc 2 1, 3, [(1, 0)], 0), (24, .goto (-20), 3, [(0, 4)], 0), (27, .iload_n 1, 1, [], 0), (28, .ireturn, 1, [], 0)]
def mX1_allUses : xM := (yX1_allUses, cX1_allUses, 3, (some .int), tX1_allUses, KX1, false)
abbrev nX1_allUses : Nat := 26
def tX1_allPrices : xT := [(0, .iconst 0, 1, [(0, 0)], 0), (1, .istore_n 1, 1, [], 0), (2, .iconst 0, 1, [(0, 0)], 0), (3, .istore_n 2, 1, [], 0), (4, .iload_n 2, 1, [], 0), (5, .aload_n 0, 1, [], 0), (6, .getfield 34, 3, [(0, 0), (0, 6), (0, 0)], 0), (9, .if_icmp .ge 18, 3, [(0, 27)], 0), (12, .iload_n 1, 1, [], 0), (13, .aload_n 0, 1, [], 0), (14, .getfield 21, 3, [(0, 0), (0, 3), (0, 2)], 0), (17, .iload_n 2, 1, [], 0), (18, .iaload, 1, [], 0), (19, .iadd, 1, [], 0), (20, .istore_n 1, 1, [], 0), (21, .iinc 2 1, 3, [(1, 0)], 0), (24, .goto (-20), 3, [(0, 4)], 0), (27, .iload_n 1, 1, [], 0), (28, .ireturn, 1, [], 0)]
def mX1_allPrices : xM := (yX1_allPrices, cX1_allPrices, 3, (some .int), tX1_allPrices, KX1, false)
abbrev nX1_allPrices : Nat := 27
def tX2_isFull : xT := [(0, .aload_n 0, 1, [], 0), (1, .getfield 15, 3, [(0, 1), (0, 1), (0, 0)], 0), (4, .bipush 80, 2, [(80, 0)], 0), (6, .if_icmp .lt 7, 3, [(0, 13)], 0), (9, .iconst 1, 1, [(1, 0)], 0), (10, .goto 4, 3, [(0, 14)], 0), (13, .iconst 0, 1, [(0, 0)], 0), (14, .ireturn, 1, [], 0)]
def mX2_isFull : xM := (yX2_isFull, cX2_isFull, 1, (some .boolean), tX2_isFull, KX2, false)
abbrev nX2_isFull : Nat := 28
def tX2_taken : xT := [(0, .aload_n 0, 1, [], 0), (1, .invokevirtual 19, 3, [(0, 28)], 0), (4, .ifCond .ne 23, 3, [(0, 27)], 0), (7, .aload_n 0, 1, [], 0), (8, .getfield 11, 3, [(0, 1), (0, 0), (0, 2)], 0), (11, .aload_n 0, 1, [], 0), (12, .getfield 15, 3, [(0, 1), (0, 1), (0, 0)], 0), (15, .iload_n 1, 1, [], 0), (16, .iastore, 1, [], 0), (17, .aload_n 0, 1, [], 0), (18, .dup, 1, [], 0), (19, .getfield 15, 3, [(0, 1), (0, 1), (0, 0)], 0), (22, .iconst 1, 1, [(1, 0)], 0), (23, .iadd, 1, [], 0), (24, .putfield 15, 3, [(0, 1), (0, 1), (0, 0)], 0), (27, .aload_n 0, 1, [], 0), (28, .getfield 15, 3, [(0, 1), (0, 1), (0, 0)], 0), (31, .ireturn, 1, [], 0)]
def mX2_taken : xM := (yX2_taken, cX2_taken, 2, (some .int), tX2_taken, KX2, false)
abbrev nX2_taken : Nat := 29
def tX2_forget : xT := [(0, .aload_n 0, 1, [], 0), (1, .iconst 0, 1, [(0, 0)], 0), (2, .putfield 15, 3, [(0, 1), (0, 1), (0, 0)], 0), (5, .return_, 1, [], 0)]
def mX2_forget : xM := (yX2_forget, cX2_forget, 1, none, tX2_forget, KX2, false)
abbrev nX2_forget : Nat := 30
def tX2_stateOpened : xT := [(0, .iload_n 0, 1, [], 0), (1, .lookupswitch 43 #[(104, 40), (115, 35), (119, 37)], 35, [(0, 44), (104, 41), (115, 36), (119, 38)], 0), (36, .iconst 1, 1, [(1, 0)], 0), (37, .ireturn, 1, [], 0), (38, .bipush 7, 2, [(7, 0)], 0), (40, .ireturn, 1, [], 0), (41, .bipush 6, 2, [(6, 0)], 0), (43, .ireturn, 1, [], 0), (44, .iconst (-1), 1, [((-1), 0)], 0), (45, .ireturn, 1, [], 0)]
def mX2_stateOpened : xM := (yX2_stateOpened, cX2_stateOpened, 1, (some .int), tX2_stateOpened, KX2, true)
abbrev nX2_stateOpened : Nat := 31
def tX2_isDigit : xT := [(0, .iload_n 0, 1, [], 0), (1, .bipush 48, 2, [(48, 0)], 0), (3, .if_icmp .lt 13, 3, [(0, 16)], 0), (6, .iload_n 0, 1, [], 0), (7, .bipush 57, 2, [(57, 0)], 0), (9, .if_icmp .gt 7, 3, [(0, 16)], 0), (12, .iconst 1, 1, [(1, 0)], 0), (13, .goto 4, 3, [(0, 17)], 0), (16, .iconst 0, 1, [(0, 0)], 0), (17, .ireturn, 1, [], 0)]
def mX2_isDigit : xM := (yX2_isDigit, cX2_isDigit, 1, (some .boolean), tX2_isDigit, KX2, true)
abbrev nX2_isDigit : Nat := 32
def tX2_stateBehind : xT := [(0, .iload_n 0, 1, [], 0), (1, .bipush 7, 2, [(7, 0)], 0), (3, .if_icmp .lt 29, 3, [(0, 32)], 0), (6, .iload_n 0, 1, [], 0), (7, .bipush 23, 2, [(23, 0)], 0), (9, .if_icmp .ge 23, 3, [(0, 32)], 0), (12, .iload_n 1, 1, [], 0), (13, .bipush 46, 2, [(46, 0)], 0), (15, .if_icmp .eq 9, 3, [(0, 24)], 0), (18, .iload_n 1, 1, [], 0), (19, .bipush 35, 2, [(35, 0)], 0), (21, .if_icmp .ne 9, 3, [(0, 30)], 0), (24, .iload_n 0, 1, [], 0), (25, .iconst 1, 1, [(1, 0)], 0), (26, .iadd, 1, [], 0), (27, .goto 4, 3, [(0, 31)], 0), (30, .iconst (-1), 1, [((-1), 0)], 0), (31, .ireturn, 1, [], 0), (32, .iload_n 0, 1, [], 0), (33, .tableswitch 216 0 23 #[111, 116, 129, 142, 155, 177, 190, 216, 216, 216, 216, 216, 216, 216, 216, 216, 216, 216, 216, 216, 216, 216, 216, 204], 111, [(0, 249), (0, 144), (1, 149), (2, 162), (3, 175), (4, 188), (5, 210), (6, 223), (7, 249), (8, 249), (9, 249), (10, 249), (11, 249), (12, 249), (13, 249), (14, 249), (15, 249), (16, 249), (17, 249), (18, 249), (19, 249), (20, 249), (21, 249), (22, 249), (23, 237)], 0), (144, .iload_n 1, 1, [], 0), (145, .invokestatic 27, 3, [(0, 31)], 0), (148, .ireturn, 1, [], 0), (149, .iload_n 1, 1, [], 0), (150, .invokestatic 31, 3, [(0, 32)], 0), (153, .ifCond .eq 7, 3, [(0, 160)], 0), (156, .iconst 2, 1, [(2, 0)], 0), (157, .goto 4, 3, [(0, 161)], 0), (160, .iconst (-1), 1, [((-1), 0)], 0), (161, .ireturn, 1, [], 0), (162, .iload_n 1, 1, [], 0), (163, .invokestatic 31, 3, [(0, 32)], 0), (166, .ifCond .eq 7, 3, [(0, 173)], 0), (169, .iconst 3, 1, [(3, 0)], 0), (170, .goto 4, 3, [(0, 174)], 0), (173, .iconst (-1), 1, [((-1), 0)], 0), (174, .ireturn, 1, [], 0), (175, .iload_n 1, 1, [], 0), (176, .invokestatic 31, 3, [(0, 32)], 0), (179, .ifCond .eq 7, 3, [(0, 186)], 0), (182, .iconst 4, 1, [(4, 0)], 0), (183, .goto 4, 3, [(0, 187)], 0), (186, .iconst (-1), 1, [((-1), 0)], 0), (187, .ireturn, 1, [], 0), (188, .iload_n 1, 1, [], 0), (189, .invokestatic 31, 3, [(0, 32)], 0), (192, .ifCond .eq 5, 3, [(0, 197)], 0), (195, .iconst 5, 1, [(5, 0)], 0), (196, .ireturn, 1, [], 0), (197, .iload_n 1, 1, [], 0), (198, .bipush 44, 2, [(44, 0)], 0), (200, .if_icmp .ne 8, 3, [(0, 208)], 0), (203, .bipush 7, 2, [(7, 0)], 0), (205, .goto 4, 3, [(0, 209)], 0), (208, .iconst (-1), 1, [((-1), 0)], 0), (209, .ireturn, 1, [], 0), (210, .iload_n 1, 1, [], 0), (211, .bipush 44, 2, [(44, 0)], 0), (213, .if_icmp .ne 8, 3, [(0, 221)], 0), (216, .bipush 7, 2, [(7, 0)], 0), (218, .goto 4, 3, [(0, 222)], 0), (221, .iconst (-1), 1, [((-1), 0)], 0), (222, .ireturn, 1, [], 0), (223, .iload_n 1, 1, [], 0), (224, .invokestatic 31, 3, [(0, 32)], 0), (227, .ifCond .eq 8, 3, [(0, 235)], 0), (230, .bipush 23, 2, [(23, 0)], 0), (232, .goto 4, 3, [(0, 236)], 0), (235, .iconst (-1), 1, [((-1), 0)], 0), (236, .ireturn, 1, [], 0), (237, .iload_n 1, 1, [], 0), (238, .bipush 59, 2, [(59, 0)], 0), (240, .if_icmp .ne 7, 3, [(0, 247)], 0), (243, .iconst 0, 1, [(0, 0)], 0), (244, .goto 4, 3, [(0, 248)], 0), (247, .iconst (-1), 1, [((-1), 0)], 0), (248, .ireturn, 1, [], 0), (249, .iconst (-1), 1, [((-1), 0)], 0), (250, .ireturn, 1, [], 0)]
def mX2_stateBehind : xM := (yX2_stateBehind, cX2_stateBehind, 2, (some .int), tX2_stateBehind, KX2, true)
abbrev nX2_stateBehind : Nat := 33
def tX2_fault : xT := [(0, .iconst 0, 1, [(0, 0)], 0), (1, .istore_n 1, 1, [], 0), (2, .iconst 0, 1, [(0, 0)], 0), (3, .istore_n 2, 1, [], 0), (4, .iload_n 2, 1, [], 0), (5, .aload_n 0, 1, [], 0), (6, .getfield 15, 3, [(0, 1), (0, 1), (0, 0)], 0), (9, .if_icmp .ge 31, 3, [(0, 40)], 0), (12, .iload_n 1, 1, [], 0), (13, .aload_n 0, 1, [], 0), (14, .getfield 11, 3, [(0, 1), (0, 0), (0, 2)], 0), (17, .iload_n 2, 1, [], 0), (18, .iaload, 1, [], 0), (19, .invokestatic 23, 3, [(0, 33)], 0), (22, .istore_n 1, 1, [], 0), (23, .iload_n 1, 1, [], 0), (24, .iconst (-1), 1, [((-1), 0)], 0), (25, .if_icmp .ne 9, 3, [(0, 34)], 0), (28, .sipush (-1000), 3, [((-1000), 0)], 0), (31, .iload_n 2, 1, [], 0), (32, .isub, 1, [], 0), (33, .ireturn, 1, [], 0), (34, .iinc 2 1, 3, [(1, 0)], 0), (37, .goto (-33), 3, [(0, 4)], 0), (40, .aload_n 0, 1, [], 0), (41, .getfield 15, 3, [(0, 1), (0, 1), (0, 0)], 0), (44, .ifCond .le 11, 3, [(0, 55)], 0), (47, .iload_n 1, 1, [], 0), (48, .ifCond .ne 7, 3, [(0, 55)], 0), (51, .iconst 0, 1, [(0, 0)], 0), (52, .goto 11, 3, [(0, 63)], 0), (55, .sipush (-1000), 3, [((-1000), 0)], 0), (58, .aload_n 0, 1, [], 0), (59, .getfield 15, 3, [(0, 1), (0, 1), (0, 0)], 0), (62, .isub, 1, [], 0), (63, .ireturn, 1, [], 0)]
def mX2_fault : xM := (yX2_fault, cX2_fault, 3, (some .int), tX2_fault, KX2, false)
abbrev nX2_fault : Nat := 34
def tX2_signAt : xT := [(0, .iload_n 1, 1, [], 0), (1, .ifCond .lt 20, 3, [(0, 21)], 0), (4, .iload_n 1, 1, [], 0), (5, .aload_n 0, 1, [], 0), (6, .getfield 15, 3, [(0, 1), (0, 1), (0, 0)], 0), (9, .if_icmp .ge 12, 3, [(0, 21)], 0), (12, .aload_n 0, 1, [], 0), (13, .getfield 11, 3, [(0, 1), (0, 0), (0, 2)], 0), (16, .iload_n 1, 1, [], 0), (17, .iaload, 1, [], 0), (18, .goto 4, 3, [(0, 22)], 0), (21, .iconst 0, 1, [(0, 0)], 0), (22, .ireturn, 1, [], 0)]
def mX2_signAt : xM := (yX2_signAt, cX2_signAt, 2, (some .int), tX2_signAt, KX2, false)
abbrev nX2_signAt : Nat := 35
def tX2_digit : xT := [(0, .aload_n 0, 1, [], 0), (1, .iload_n 1, 1, [], 0), (2, .invokevirtual 39, 3, [(0, 35)], 0), (5, .bipush 48, 2, [(48, 0)], 0), (7, .isub, 1, [], 0), (8, .ireturn, 1, [], 0)]
def mX2_digit : xM := (yX2_digit, cX2_digit, 2, (some .int), tX2_digit, KX2, false)
abbrev nX2_digit : Nat := 36
def tX2_number : xT := [(0, .iconst 0, 1, [(0, 0)], 0), (1, .istore_n 3, 1, [], 0), (2, .iload_n 1, 1, [], 0), (3, .istore 4, 2, [], 0), (5, .iload 4, 2, [], 0), (7, .iload_n 2, 1, [], 0), (8, .if_icmp .ge 21, 3, [(0, 29)], 0), (11, .iload_n 3, 1, [], 0), (12, .bipush 10, 2, [(10, 0)], 0), (14, .imul, 1, [], 0), (15, .aload_n 0, 1, [], 0), (16, .iload 4, 2, [], 0), (18, .invokevirtual 45, 3, [(0, 36)], 0), (21, .iadd, 1, [], 0), (22, .istore_n 3, 1, [], 0), (23, .iinc 4 1, 3, [(1, 0)], 0), (26, .goto (-21), 3, [(0, 5)], 0), (29, .iload_n 3, 1, [], 0), (30, .ireturn, 1, [], 0)]
def mX2_number : xM := (yX2_number, cX2_number, 5, (some .int), tX2_number, KX2, false)
abbrev nX2_number : Nat := 37
def tX2_pictureBefore : xT := [(0, .iconst 0, 1, [(0, 0)], 0), (1, .istore_n 2, 1, [], 0), (2, .iconst 0, 1, [(0, 0)], 0), (3, .istore_n 3, 1, [], 0), (4, .iload_n 3, 1, [], 0), (5, .bipush 16, 2, [(16, 0)], 0), (7, .if_icmp .ge 30, 3, [(0, 37)], 0), (10, .aload_n 0, 1, [], 0), (11, .iload_n 1, 1, [], 0), (12, .bipush 16, 2, [(16, 0)], 0), (14, .isub, 1, [], 0), (15, .iload_n 3, 1, [], 0), (16, .iadd, 1, [], 0), (17, .invokevirtual 39, 3, [(0, 35)], 0), (20, .bipush 35, 2, [(35, 0)], 0), (22, .if_icmp .ne 9, 3, [(0, 31)], 0), (25, .iload_n 2, 1, [], 0), (26, .iconst 1, 1, [(1, 0)], 0), (27, .iload_n 3, 1, [], 0), (28, .ishl, 1, [], 0), (29, .ior, 1, [], 0), (30, .istore_n 2, 1, [], 0), (31, .iinc 3 1, 3, [(1, 0)], 0), (34, .goto (-30), 3, [(0, 4)], 0), (37, .iload_n 2, 1, [], 0), (38, .ireturn, 1, [], 0)]
def mX2_pictureBefore : xM := (yX2_pictureBefore, cX2_pictureBefore, 4, (some .int), tX2_pictureBefore, KX2, false)
abbrev nX2_pictureBefore : Nat := 38
def tX2_statementComes : xT := [(0, .aload_n 0, 1, [], 0), (1, .iload_n 2, 1, [], 0), (2, .invokevirtual 39, 3, [(0, 35)], 0), (5, .lookupswitch 82 #[(115, 27), (119, 72)], 27, [(0, 87), (115, 32), (119, 77)], 0), (32, .iload_n 3, 1, [], 0), (33, .bipush 16, 2, [(16, 0)], 0), (35, .isub, 1, [], 0), (36, .iconst 1, 1, [(1, 0)], 0), (37, .isub, 1, [], 0), (38, .istore 4, 2, [], 0), (40, .aload_n 0, 1, [], 0), (41, .iload_n 2, 1, [], 0), (42, .iconst 3, 1, [(3, 0)], 0), (43, .iadd, 1, [], 0), (44, .iload 4, 2, [], 0), (46, .invokevirtual 42, 3, [(0, 37)], 0), (49, .istore 5, 2, [], 0), (51, .aload_n 1, 1, [], 0), (52, .aload_n 0, 1, [], 0), (53, .iload_n 2, 1, [], 0), (54, .iconst 1, 1, [(1, 0)], 0), (55, .iadd, 1, [], 0), (56, .invokevirtual 45, 3, [(0, 36)], 0), (59, .aload_n 0, 1, [], 0), (60, .iload_n 2, 1, [], 0), (61, .iconst 2, 1, [(2, 0)], 0), (62, .iadd, 1, [], 0), (63, .invokevirtual 45, 3, [(0, 36)], 0), (66, .iload 5, 2, [], 0), (68, .aload_n 0, 1, [], 0), (69, .iload_n 3, 1, [], 0), (70, .invokevirtual 48, 3, [(0, 38)], 0), (73, .invokevirtual 51, 3, [(0, 7)], 0), (76, .ireturn, 1, [], 0), (77, .aload_n 1, 1, [], 0), (78, .aload_n 0, 1, [], 0), (79, .iload_n 3, 1, [], 0), (80, .invokevirtual 48, 3, [(0, 38)], 0), (83, .invokevirtual 57, 3, [(0, 8)], 0), (86, .ireturn, 1, [], 0), (87, .aload_n 1, 1, [], 0), (88, .aload_n 0, 1, [], 0), (89, .iload_n 2, 1, [], 0), (90, .iconst 1, 1, [(1, 0)], 0), (91, .iadd, 1, [], 0), (92, .invokevirtual 45, 3, [(0, 36)], 0), (95, .invokevirtual 60, 3, [(0, 9)], 0), (98, .ireturn, 1, [], 0)]
def mX2_statementComes : xM := (yX2_statementComes, cX2_statementComes, 6, (some .boolean), tX2_statementComes, KX2, false)
abbrev nX2_statementComes : Nat := 39
def tX2_toldTo : xT := [(0, .iconst 0, 1, [(0, 0)], 0), (1, .istore_n 2, 1, [], 0), (2, .iconst 0, 1, [(0, 0)], 0), (3, .istore_n 3, 1, [], 0), (4, .iconst 0, 1, [(0, 0)], 0), (5, .istore 4, 2, [], 0), (7, .iload 4, 2, [], 0), (9, .aload_n 0, 1, [], 0), (10, .getfield 15, 3, [(0, 1), (0, 1), (0, 0)], 0), (13, .if_icmp .ge 49, 3, [(0, 62)], 0), (16, .aload_n 0, 1, [], 0), (17, .getfield 11, 3, [(0, 1), (0, 0), (0, 2)], 0), (20, .iload 4, 2, [], 0), (22, .iaload, 1, [], 0), (23, .bipush 59, 2, [(59, 0)], 0), (25, .if_icmp .eq 6, 3, [(0, 31)], 0), (28, .goto 28, 3, [(0, 56)], 0), (31, .aload_n 0, 1, [], 0), (32, .aload_n 1, 1, [], 0), (33, .iload_n 3, 1, [], 0), (34, .iload 4, 2, [], 0), (36, .invokevirtual 35, 3, [(0, 39)], 0), (39, .ifCond .ne 9, 3, [(0, 48)], 0), (42, .sipush (-2000), 3, [((-2000), 0)], 0), (45, .iload_n 3, 1, [], 0), (46, .isub, 1, [], 0), (47, .ireturn, 1, [], 0), (48, .iinc 2 1, 3, [(1, 0)], 0), (51, .iload 4, 2, [], 0), (53, .iconst 1, 1, [(1, 0)], 0), (54, .iadd, 1, [], 0), (55, .istore_n 3, 1, [], 0), (56, .iinc 4 1, 3, [(1, 0)], 0), (59, .goto (-52), 3, [(0, 7)], 0), (62, .iload_n 2, 1, [], 0), (63, .ireturn, 1, [], 0)]
def mX2_toldTo : xM := (yX2_toldTo, cX2_toldTo, 5, (some .int), tX2_toldTo, KX2, false)
abbrev nX2_toldTo : Nat := 40
def tX3_usable : xT := [(0, .iload_n 0, 1, [], 0), (1, .iload_n 1, 1, [], 0), (2, .iconst (-1), 1, [((-1), 0)], 0), (3, .ixor, 1, [], 0), (4, .iand, 1, [], 0), (5, .ifCond .ne 7, 3, [(0, 12)], 0), (8, .iload_n 0, 1, [], 0), (9, .goto 4, 3, [(0, 13)], 0), (12, .iconst (-1), 1, [((-1), 0)], 0), (13, .ireturn, 1, [], 0)]
def mX3_usable : xM := (yX3_usable, cX3_usable, 2, (some .int), tX3_usable, KX3, true)
abbrev nX3_usable : Nat := 41
def tX3_dark : xT := [(0, .iload_n 0, 1, [], 0), (1, .iconst (-1), 1, [((-1), 0)], 0), (2, .if_icmp .ne 7, 3, [(0, 9)], 0), (5, .iconst 0, 1, [(0, 0)], 0), (6, .goto 4, 3, [(0, 10)], 0), (9, .iload_n 0, 1, [], 0), (10, .ireturn, 1, [], 0)]
def mX3_dark : xM := (yX3_dark, cX3_dark, 1, (some .int), tX3_dark, KX3, true)
abbrev nX3_dark : Nat := 42
def tX3_load : xT := [(0, .aload_n 0, 1, [], 0), (1, .iload_n 3, 1, [], 0), (2, .putfield 70, 3, [(0, 2), (0, 5), (0, 0)], 0), (5, .aload_n 0, 1, [], 0), (6, .aload_n 1, 1, [], 0), (7, .getfield 73, 3, [(0, 0), (0, 6), (0, 0)], 0), (10, .bipush 8, 2, [(8, 0)], 0), (12, .invokestatic 76, 3, [(0, 0), (0, 0)], 0), (15, .putfield 82, 3, [(0, 2), (0, 4), (0, 0)], 0), (18, .aload_n 0, 1, [], 0), (19, .getfield 21, 3, [(0, 2), (0, 3), (0, 2)], 0), (22, .aload_n 0, 1, [], 0), (23, .getfield 82, 3, [(0, 2), (0, 4), (0, 0)], 0), (26, .iconst 0, 1, [(0, 0)], 0), (27, .iastore, 1, [], 0), (28, .aload_n 0, 1, [], 0), (29, .getfield 82, 3, [(0, 2), (0, 4), (0, 0)], 0), (32, .iconst 1, 1, [(1, 0)], 0), (33, .isub, 1, [], 0), (34, .istore 5, 2, [], 0), (36, .iload 5, 2, [], 0), (38, .ifCond .lt 120, 3, [(0, 158)], 0), (41, .aload_n 1, 1, [], 0), (42, .iload 5, 2, [], 0), (44, .invokevirtual 85, 3, [(0, 18)], 0), (47, .istore 6, 2, [], 0), (49, .aload_n 0, 1, [], 0), (50, .getfield 9, 3, [(0, 2), (0, 0), (0, 2)], 0), (53, .iload 5, 2, [], 0), (55, .iload 5, 2, [], 0), (57, .iload_n 2, 1, [], 0), (58, .if_icmp .ne 7, 3, [(0, 65)], 0), (61, .iconst (-1), 1, [((-1), 0)], 0), (62, .goto 10, 3, [(0, 72)], 0), (65, .iload 6, 2, [], 0), (67, .iload 4, 2, [], 0), (69, .invokestatic 88, 3, [(0, 41)], 0), (72, .iastore, 1, [], 0), (73, .aload_n 0, 1, [], 0), (74, .getfield 15, 3, [(0, 2), (0, 1), (0, 2)], 0), (77, .iload 5, 2, [], 0), (79, .iload 5, 2, [], 0), (81, .iload_n 2, 1, [], 0), (82, .if_icmp .ne 7, 3, [(0, 89)], 0), (85, .iconst (-1), 1, [((-1), 0)], 0), (86, .goto 13, 3, [(0, 99)], 0), (89, .iload 6, 2, [], 0), (91, .invokestatic 91, 3, [(0, 1)], 0), (94, .iload 4, 2, [], 0), (96, .invokestatic 88, 3, [(0, 41)], 0), (99, .iastore, 1, [], 0), (100, .aload_n 0, 1, [], 0), (101, .getfield 18, 3, [(0, 2), (0, 2), (0, 2)], 0), (104, .iload 5, 2, [], 0), (106, .aload_n 1, 1, [], 0), (107, .getfield 96, 3, [(0, 0), (0, 3), (0, 2)], 0), (110, .iload 5, 2, [], 0), (112, .iaload, 1, [], 0), (113, .iastore, 1, [], 0), (114, .aload_n 0, 1, [], 0), (115, .getfield 21, 3, [(0, 2), (0, 3), (0, 2)], 0), (118, .iload 5, 2, [], 0), (120, .aload_n 0, 1, [], 0), (121, .getfield 21, 3, [(0, 2), (0, 3), (0, 2)], 0), (124, .iload 5, 2, [], 0), (126, .iconst 1, 1, [(1, 0)], 0), (127, .iadd, 1, [], 0), (128, .iaload, 1, [], 0), (129, .aload_n 0, 1, [], 0), (130, .getfield 9, 3, [(0, 2), (0, 0), (0, 2)], 0), (133, .iload 5, 2, [], 0), (135, .iaload, 1, [], 0), (136, .invokestatic 99, 3, [(0, 42)], 0), (139, .ior, 1, [], 0), (140, .aload_n 0, 1, [], 0), (141, .getfield 15, 3, [(0, 2), (0, 1), (0, 2)], 0), (144, .iload 5, 2, [], 0), (146, .iaload, 1, [], 0), (147, .invokestatic 99, 3, [(0, 42)], 0), (150, .ior, 1, [], 0), (151, .iastore, 1, [], 0), (152, .iinc 5 (-1), 3, [((-1), 0)], 0), (155, .goto (-119), 3, [(0, 36)], 0), (158, .return_, 1, [], 0)]
def mX3_load : xM := (yX3_load, cX3_load, 7, none, tX3_load, KX3, false)
abbrev nX3_load : Nat := 43
def tX3_isOutOfReach : xT := [(0, .aload_n 0, 1, [], 0), (1, .getfield 70, 3, [(0, 2), (0, 5), (0, 0)], 0), (4, .iload_n 2, 1, [], 0), (5, .aload_n 0, 1, [], 0), (6, .getfield 21, 3, [(0, 2), (0, 3), (0, 2)], 0), (9, .iload_n 1, 1, [], 0), (10, .iaload, 1, [], 0), (11, .ior, 1, [], 0), (12, .iconst (-1), 1, [((-1), 0)], 0), (13, .ixor, 1, [], 0), (14, .iand, 1, [], 0), (15, .ifCond .eq 7, 3, [(0, 22)], 0), (18, .iconst 1, 1, [(1, 0)], 0), (19, .goto 4, 3, [(0, 23)], 0), (22, .iconst 0, 1, [(0, 0)], 0), (23, .ireturn, 1, [], 0)]
def mX3_isOutOfReach : xM := (yX3_isOutOfReach, cX3_isOutOfReach, 3, (some .boolean), tX3_isOutOfReach, KX3, false)
abbrev nX3_isOutOfReach : Nat := 44
def tX3_noteFewest : xT := [(0, .iload_n 1, 1, [], 0), (1, .invokestatic 105, 3, [(0, 13)], 0), (4, .istore_n 3, 1, [], 0), (5, .iload_n 3, 1, [], 0), (6, .aload_n 0, 1, [], 0), (7, .getfield 28, 3, [(0, 2), (0, 7), (0, 0)], 0), (10, .if_icmp .ge 7, 3, [(0, 17)], 0), (13, .iconst 1, 1, [(1, 0)], 0), (14, .goto 4, 3, [(0, 18)], 0), (17, .iconst 0, 1, [(0, 0)], 0), (18, .istore 4, 2, [], 0), (20, .aload_n 0, 1, [], 0), (21, .iload 4, 2, [], 0), (23, .ifCond .eq 7, 3, [(0, 30)], 0), (26, .iconst 1, 1, [(1, 0)], 0), (27, .goto 9, 3, [(0, 36)], 0), (30, .aload_n 0, 1, [], 0), (31, .getfield 38, 3, [(0, 2), (0, 10), (0, 0)], 0), (34, .iconst 1, 1, [(1, 0)], 0), (35, .iadd, 1, [], 0), (36, .putfield 38, 3, [(0, 2), (0, 10), (0, 0)], 0), (39, .aload_n 0, 1, [], 0), (40, .iload_n 3, 1, [], 0), (41, .putfield 28, 3, [(0, 2), (0, 7), (0, 0)], 0), (44, .iload 4, 2, [], 0), (46, .ifCond .ne 27, 3, [(0, 73)], 0), (49, .iload_n 1, 1, [], 0), (50, .aload_n 0, 1, [], 0), (51, .getfield 32, 3, [(0, 2), (0, 8), (0, 0)], 0), (54, .if_icmp .lt 19, 3, [(0, 73)], 0), (57, .iload_n 1, 1, [], 0), (58, .aload_n 0, 1, [], 0), (59, .getfield 32, 3, [(0, 2), (0, 8), (0, 0)], 0), (62, .if_icmp .ne 21, 3, [(0, 83)], 0), (65, .iload_n 2, 1, [], 0), (66, .aload_n 0, 1, [], 0), (67, .getfield 35, 3, [(0, 2), (0, 9), (0, 0)], 0), (70, .if_icmp .ge 13, 3, [(0, 83)], 0), (73, .aload_n 0, 1, [], 0), (74, .iload_n 1, 1, [], 0), (75, .putfield 32, 3, [(0, 2), (0, 8), (0, 0)], 0), (78, .aload_n 0, 1, [], 0), (79, .iload_n 2, 1, [], 0), (80, .putfield 35, 3, [(0, 2), (0, 9), (0, 0)], 0), (83, .return_, 1, [], 0)]
def mX3_noteFewest : xM := (yX3_noteFewest, cX3_noteFewest, 5, none, tX3_noteFewest, KX3, false)
abbrev nX3_noteFewest : Nat := 45
def tX3_seekFewest : xT := [(0, .iload_n 1, 1, [], 0), (1, .ifCond .lt 20, 3, [(0, 21)], 0), (4, .iload_n 1, 1, [], 0), (5, .aload_n 0, 1, [], 0), (6, .getfield 82, 3, [(0, 2), (0, 4), (0, 0)], 0), (9, .if_icmp .gt 12, 3, [(0, 21)], 0), (12, .aload_n 0, 1, [], 0), (13, .iload_n 1, 1, [], 0), (14, .iload_n 2, 1, [], 0), (15, .invokevirtual 102, 3, [(0, 44)], 0), (18, .ifCond .eq 4, 3, [(0, 22)], 0), (21, .return_, 1, [], 0), (22, .iload_n 3, 1, [], 0), (23, .invokestatic 105, 3, [(0, 13)], 0), (26, .aload_n 0, 1, [], 0), (27, .getfield 28, 3, [(0, 2), (0, 7), (0, 0)], 0), (30, .if_icmp .le 4, 3, [(0, 34)], 0), (33, .return_, 1, [], 0), (34, .iload_n 1, 1, [], 0), (35, .aload_n 0, 1, [], 0), (36, .getfield 82, 3, [(0, 2), (0, 4), (0, 0)], 0), (39, .if_icmp .ne 11, 3, [(0, 50)], 0), (42, .aload_n 0, 1, [], 0), (43, .iload_n 3, 1, [], 0), (44, .iload 4, 2, [], 0), (46, .invokevirtual 110, 3, [(0, 45)], 0), (49, .return_, 1, [], 0), (50, .iconst 1, 1, [(1, 0)], 0), (51, .iload_n 1, 1, [], 0), (52, .ishl, 1, [], 0), (53, .istore 5, 2, [], 0), (55, .aload_n 0, 1, [], 0), (56, .iload_n 1, 1, [], 0), (57, .iconst 1, 1, [(1, 0)], 0), (58, .iadd, 1, [], 0), (59, .iload_n 2, 1, [], 0), (60, .iload_n 3, 1, [], 0), (61, .iload 4, 2, [], 0), (63, .invokevirtual 41, 3, [(0, 46)], 0), (66, .aload_n 0, 1, [], 0), (67, .getfield 9, 3, [(0, 2), (0, 0), (0, 2)], 0), (70, .iload_n 1, 1, [], 0), (71, .iaload, 1, [], 0), (72, .iconst (-1), 1, [((-1), 0)], 0), (73, .if_icmp .eq 24, 3, [(0, 97)], 0), (76, .aload_n 0, 1, [], 0), (77, .iload_n 1, 1, [], 0), (78, .iconst 1, 1, [(1, 0)], 0), (79, .iadd, 1, [], 0), (80, .iload_n 2, 1, [], 0), (81, .aload_n 0, 1, [], 0), (82, .getfield 9, 3, [(0, 2), (0, 0), (0, 2)], 0), (85, .iload_n 1, 1, [], 0), (86, .iaload, 1, [], 0), (87, .ior, 1, [], 0), (88, .iload_n 3, 1, [], 0), (89, .iload 5, 2, [], 0), (91, .ior, 1, [], 0), (92, .iload 4, 2, [], 0), (94, .invokevirtual 41, 3, [(0, 46)], 0), (97, .aload_n 0, 1, [], 0), (98, .getfield 15, 3, [(0, 2), (0, 1), (0, 2)], 0), (101, .iload_n 1, 1, [], 0), (102, .iaload, 1, [], 0), (103, .iconst (-1), 1, [((-1), 0)], 0), (104, .if_icmp .eq 27, 3, [(0, 131)], 0), (107, .aload_n 0, 1, [], 0), (108, .iload_n 1, 1, [], 0), (109, .iconst 1, 1, [(1, 0)], 0), (110, .iadd, 1, [], 0), (111, .iload_n 2, 1, [], 0), (112, .aload_n 0, 1, [], 0), (113, .getfield 15, 3, [(0, 2), (0, 1), (0, 2)], 0), (116, .iload_n 1, 1, [], 0), (117, .iaload, 1, [], 0), (118, .ior, 1, [], 0), (119, .iload_n 3, 1, [], 0), (120, .iload 5, 2, [], 0), (122, .ior, 1, [], 0), (123, .iload 4, 2, [], 0), (125, .iload 5, 2, [], 0), (127, .ior, 1, [], 0), (128, .invokevirtual 41, 3, [(0, 46)], 0), (131, .return_, 1, [], 0)]
def mX3_seekFewest : xM := (yX3_seekFewest, cX3_seekFewest, 6, none, tX3_seekFewest, KX3, false)
abbrev nX3_seekFewest : Nat := 46
def tX3_findsFewest : xT := [(0, .aload_n 0, 1, [], 0), (1, .aload_n 1, 1, [], 0), (2, .iconst (-1), 1, [((-1), 0)], 0), (3, .iload_n 2, 1, [], 0), (4, .iload_n 2, 1, [], 0), (5, .invokevirtual 24, 3, [(0, 43)], 0), (8, .aload_n 0, 1, [], 0), (9, .bipush 9, 2, [(9, 0)], 0), (11, .putfield 28, 3, [(0, 2), (0, 7), (0, 0)], 0), (14, .aload_n 0, 1, [], 0), (15, .iconst 0, 1, [(0, 0)], 0), (16, .putfield 32, 3, [(0, 2), (0, 8), (0, 0)], 0), (19, .aload_n 0, 1, [], 0), (20, .iconst 0, 1, [(0, 0)], 0), (21, .putfield 35, 3, [(0, 2), (0, 9), (0, 0)], 0), (24, .aload_n 0, 1, [], 0), (25, .iconst 0, 1, [(0, 0)], 0), (26, .putfield 38, 3, [(0, 2), (0, 10), (0, 0)], 0), (29, .aload_n 0, 1, [], 0), (30, .iconst 0, 1, [(0, 0)], 0), (31, .iconst 0, 1, [(0, 0)], 0), (32, .iconst 0, 1, [(0, 0)], 0), (33, .iconst 0, 1, [(0, 0)], 0), (34, .invokevirtual 41, 3, [(0, 46)], 0), (37, .aload_n 0, 1, [], 0), (38, .getfield 38, 3, [(0, 2), (0, 10), (0, 0)], 0), (41, .ifCond .le 7, 3, [(0, 48)], 0), (44, .iconst 1, 1, [(1, 0)], 0), (45, .goto 4, 3, [(0, 49)], 0), (48, .iconst 0, 1, [(0, 0)], 0), (49, .ireturn, 1, [], 0)]
def mX3_findsFewest : xM := (yX3_findsFewest, cX3_findsFewest, 3, (some .boolean), tX3_findsFewest, KX3, false)
abbrev nX3_findsFewest : Nat := 47
def tX3_seekCheapest : xT := [(0, .iload_n 1, 1, [], 0), (1, .ifCond .lt 28, 3, [(0, 29)], 0), (4, .iload_n 1, 1, [], 0), (5, .aload_n 0, 1, [], 0), (6, .getfield 82, 3, [(0, 2), (0, 4), (0, 0)], 0), (9, .if_icmp .gt 20, 3, [(0, 29)], 0), (12, .iload_n 3, 1, [], 0), (13, .aload_n 0, 1, [], 0), (14, .getfield 45, 3, [(0, 2), (0, 6), (0, 0)], 0), (17, .if_icmp .ge 12, 3, [(0, 29)], 0), (20, .aload_n 0, 1, [], 0), (21, .iload_n 1, 1, [], 0), (22, .iload_n 2, 1, [], 0), (23, .invokevirtual 102, 3, [(0, 44)], 0), (26, .ifCond .eq 4, 3, [(0, 30)], 0), (29, .return_, 1, [], 0), (30, .iload_n 1, 1, [], 0), (31, .aload_n 0, 1, [], 0), (32, .getfield 82, 3, [(0, 2), (0, 4), (0, 0)], 0), (35, .if_icmp .ne 9, 3, [(0, 44)], 0), (38, .aload_n 0, 1, [], 0), (39, .iload_n 3, 1, [], 0), (40, .putfield 45, 3, [(0, 2), (0, 6), (0, 0)], 0), (43, .return_, 1, [], 0), (44, .aload_n 0, 1, [], 0), (45, .iload_n 1, 1, [], 0), (46, .iconst 1, 1, [(1, 0)], 0), (47, .iadd, 1, [], 0), (48, .iload_n 2, 1, [], 0), (49, .iload_n 3, 1, [], 0), (50, .invokevirtual 48, 3, [(0, 48)], 0), (53, .aload_n 0, 1, [], 0), (54, .getfield 9, 3, [(0, 2), (0, 0), (0, 2)], 0), (57, .iload_n 1, 1, [], 0), (58, .iaload, 1, [], 0), (59, .iconst (-1), 1, [((-1), 0)], 0), (60, .if_icmp .eq 26, 3, [(0, 86)], 0), (63, .aload_n 0, 1, [], 0), (64, .iload_n 1, 1, [], 0), (65, .iconst 1, 1, [(1, 0)], 0), (66, .iadd, 1, [], 0), (67, .iload_n 2, 1, [], 0), (68, .aload_n 0, 1, [], 0), (69, .getfield 9, 3, [(0, 2), (0, 0), (0, 2)], 0), (72, .iload_n 1, 1, [], 0), (73, .iaload, 1, [], 0), (74, .ior, 1, [], 0), (75, .iload_n 3, 1, [], 0), (76, .aload_n 0, 1, [], 0), (77, .getfield 18, 3, [(0, 2), (0, 2), (0, 2)], 0), (80, .iload_n 1, 1, [], 0), (81, .iaload, 1, [], 0), (82, .iadd, 1, [], 0), (83, .invokevirtual 48, 3, [(0, 48)], 0), (86, .aload_n 0, 1, [], 0), (87, .getfield 15, 3, [(0, 2), (0, 1), (0, 2)], 0), (90, .iload_n 1, 1, [], 0), (91, .iaload, 1, [], 0), (92, .iconst (-1), 1, [((-1), 0)], 0), (93, .if_icmp .eq 26, 3, [(0, 119)], 0), (96, .aload_n 0, 1, [], 0), (97, .iload_n 1, 1, [], 0), (98, .iconst 1, 1, [(1, 0)], 0), (99, .iadd, 1, [], 0), (100, .iload_n 2, 1, [], 0), (101, .aload_n 0, 1, [], 0), (102, .getfield 15, 3, [(0, 2), (0, 1), (0, 2)], 0), (105, .iload_n 1, 1, [], 0), (106, .iaload, 1, [], 0), (107, .ior, 1, [], 0), (108, .iload_n 3, 1, [], 0), (109, .aload_n 0, 1, [], 0), (110, .getfield 18, 3, [(0, 2), (0, 2), (0, 2)], 0), (113, .iload_n 1, 1, [], 0), (114, .iaload, 1, [], 0), (115, .iadd, 1, [], 0), (116, .invokevirtual 48, 3, [(0, 48)], 0), (119, .return_, 1, [], 0)]
def mX3_seekCheapest : xM := (yX3_seekCheapest, cX3_seekCheapest, 4, none, tX3_seekCheapest, KX3, false)
abbrev nX3_seekCheapest : Nat := 48
def tX3_leastPrice : xT := [(0, .aload_n 0, 1, [], 0), (1, .aload_n 1, 1, [], 0), (2, .iconst (-1), 1, [((-1), 0)], 0), (3, .iload_n 2, 1, [], 0), (4, .iload_n 2, 1, [], 0), (5, .invokevirtual 24, 3, [(0, 43)], 0), (8, .aload_n 0, 1, [], 0), (9, .sipush 1000, 3, [(1000, 0)], 0), (12, .putfield 45, 3, [(0, 2), (0, 6), (0, 0)], 0), (15, .aload_n 0, 1, [], 0), (16, .iconst 0, 1, [(0, 0)], 0), (17, .iconst 0, 1, [(0, 0)], 0), (18, .iconst 0, 1, [(0, 0)], 0), (19, .invokevirtual 48, 3, [(0, 48)], 0), (22, .aload_n 0, 1, [], 0), (23, .getfield 45, 3, [(0, 2), (0, 6), (0, 0)], 0), (26, .sipush 1000, 3, [(1000, 0)], 0), (29, .if_icmp .ne 7, 3, [(0, 36)], 0), (32, .iconst (-1), 1, [((-1), 0)], 0), (33, .goto 7, 3, [(0, 40)], 0), (36, .aload_n 0, 1, [], 0), (37, .getfield 45, 3, [(0, 2), (0, 6), (0, 0)], 0), (40, .ireturn, 1, [], 0)]
def mX3_leastPrice : xM := (yX3_leastPrice, cX3_leastPrice, 3, (some .int), tX3_leastPrice, KX3, false)
abbrev nX3_leastPrice : Nat := 49
def tX3_seekNear : xT := [(0, .iload_n 1, 1, [], 0), (1, .ifCond .lt 11, 3, [(0, 12)], 0), (4, .iload_n 1, 1, [], 0), (5, .aload_n 0, 1, [], 0), (6, .getfield 82, 3, [(0, 2), (0, 4), (0, 0)], 0), (9, .if_icmp .le 4, 3, [(0, 13)], 0), (12, .return_, 1, [], 0), (13, .iload_n 2, 1, [], 0), (14, .aload_n 0, 1, [], 0), (15, .getfield 70, 3, [(0, 2), (0, 5), (0, 0)], 0), (18, .iconst (-1), 1, [((-1), 0)], 0), (19, .ixor, 1, [], 0), (20, .iand, 1, [], 0), (21, .aload_n 0, 1, [], 0), (22, .getfield 70, 3, [(0, 2), (0, 5), (0, 0)], 0), (25, .iload_n 2, 1, [], 0), (26, .aload_n 0, 1, [], 0), (27, .getfield 21, 3, [(0, 2), (0, 3), (0, 2)], 0), (30, .iload_n 1, 1, [], 0), (31, .iaload, 1, [], 0), (32, .ior, 1, [], 0), (33, .iconst (-1), 1, [((-1), 0)], 0), (34, .ixor, 1, [], 0), (35, .iand, 1, [], 0), (36, .ior, 1, [], 0), (37, .invokestatic 105, 3, [(0, 13)], 0), (40, .istore_n 3, 1, [], 0), (41, .iload_n 3, 1, [], 0), (42, .aload_n 0, 1, [], 0), (43, .getfield 45, 3, [(0, 2), (0, 6), (0, 0)], 0), (46, .if_icmp .lt 4, 3, [(0, 50)], 0), (49, .return_, 1, [], 0), (50, .iload_n 1, 1, [], 0), (51, .aload_n 0, 1, [], 0), (52, .getfield 82, 3, [(0, 2), (0, 4), (0, 0)], 0), (55, .if_icmp .ne 9, 3, [(0, 64)], 0), (58, .aload_n 0, 1, [], 0), (59, .iload_n 3, 1, [], 0), (60, .putfield 45, 3, [(0, 2), (0, 6), (0, 0)], 0), (63, .return_, 1, [], 0), (64, .aload_n 0, 1, [], 0), (65, .iload_n 1, 1, [], 0), (66, .iconst 1, 1, [(1, 0)], 0), (67, .iadd, 1, [], 0), (68, .iload_n 2, 1, [], 0), (69, .invokevirtual 53, 3, [(0, 50)], 0), (72, .aload_n 0, 1, [], 0), (73, .iload_n 1, 1, [], 0), (74, .iconst 1, 1, [(1, 0)], 0), (75, .iadd, 1, [], 0), (76, .iload_n 2, 1, [], 0), (77, .aload_n 0, 1, [], 0), (78, .getfield 9, 3, [(0, 2), (0, 0), (0, 2)], 0), (81, .iload_n 1, 1, [], 0), (82, .iaload, 1, [], 0), (83, .invokestatic 99, 3, [(0, 42)], 0), (86, .ior, 1, [], 0), (87, .invokevirtual 53, 3, [(0, 50)], 0), (90, .aload_n 0, 1, [], 0), (91, .iload_n 1, 1, [], 0), (92, .iconst 1, 1, [(1, 0)], 0), (93, .iadd, 1, [], 0), (94, .iload_n 2, 1, [], 0), (95, .aload_n 0, 1, [], 0), (96, .getfield 15, 3, [(0, 2), (0, 1), (0, 2)], 0), (99, .iload_n 1, 1, [], 0), (100, .iaload, 1, [], 0), (101, .invokestatic 99, 3, [(0, 42)], 0), (104, .ior, 1, [], 0), (105, .invokevirtual 53, 3, [(0, 50)], 0), (108, .return_, 1, [], 0)]
def mX3_seekNear : xM := (yX3_seekNear, cX3_seekNear, 4, none, tX3_seekNear, KX3, false)
abbrev nX3_seekNear : Nat := 50
def tX3_leastUnlike : xT := [(0, .aload_n 0, 1, [], 0), (1, .aload_n 1, 1, [], 0), (2, .iconst (-1), 1, [((-1), 0)], 0), (3, .iload_n 2, 1, [], 0), (4, .ldc 52, 2, [(65535, 0)], 0), (6, .invokevirtual 24, 3, [(0, 43)], 0), (9, .aload_n 0, 1, [], 0), (10, .bipush 17, 2, [(17, 0)], 0), (12, .putfield 45, 3, [(0, 2), (0, 6), (0, 0)], 0), (15, .aload_n 0, 1, [], 0), (16, .iconst 0, 1, [(0, 0)], 0), (17, .iconst 0, 1, [(0, 0)], 0), (18, .invokevirtual 53, 3, [(0, 50)], 0), (21, .aload_n 0, 1, [], 0), (22, .getfield 45, 3, [(0, 2), (0, 6), (0, 0)], 0), (25, .ireturn, 1, [], 0)]
def mX3_leastUnlike : xM := (yX3_leastUnlike, cX3_leastUnlike, 3, (some .int), tX3_leastUnlike, KX3, false)
abbrev nX3_leastUnlike : Nat := 51
def tX3_isShown : xT := [(0, .iload_n 1, 1, [], 0), (1, .ifCond .lt 20, 3, [(0, 21)], 0), (4, .iload_n 1, 1, [], 0), (5, .aload_n 0, 1, [], 0), (6, .getfield 82, 3, [(0, 2), (0, 4), (0, 0)], 0), (9, .if_icmp .gt 12, 3, [(0, 21)], 0), (12, .aload_n 0, 1, [], 0), (13, .iload_n 1, 1, [], 0), (14, .iload_n 2, 1, [], 0), (15, .invokevirtual 102, 3, [(0, 44)], 0), (18, .ifCond .eq 5, 3, [(0, 23)], 0), (21, .iconst 0, 1, [(0, 0)], 0), (22, .ireturn, 1, [], 0), (23, .iload_n 1, 1, [], 0), (24, .aload_n 0, 1, [], 0), (25, .getfield 82, 3, [(0, 2), (0, 4), (0, 0)], 0), (28, .if_icmp .ne 5, 3, [(0, 33)], 0), (31, .iconst 1, 1, [(1, 0)], 0), (32, .ireturn, 1, [], 0), (33, .aload_n 0, 1, [], 0), (34, .getfield 9, 3, [(0, 2), (0, 0), (0, 2)], 0), (37, .iload_n 1, 1, [], 0), (38, .iaload, 1, [], 0), (39, .iconst (-1), 1, [((-1), 0)], 0), (40, .if_icmp .ne 22, 3, [(0, 62)], 0), (43, .aload_n 0, 1, [], 0), (44, .getfield 15, 3, [(0, 2), (0, 1), (0, 2)], 0), (47, .iload_n 1, 1, [], 0), (48, .iaload, 1, [], 0), (49, .iconst (-1), 1, [((-1), 0)], 0), (50, .if_icmp .ne 12, 3, [(0, 62)], 0), (53, .aload_n 0, 1, [], 0), (54, .iload_n 1, 1, [], 0), (55, .iconst 1, 1, [(1, 0)], 0), (56, .iadd, 1, [], 0), (57, .iload_n 2, 1, [], 0), (58, .invokevirtual 66, 3, [(0, 52)], 0), (61, .ireturn, 1, [], 0), (62, .aload_n 0, 1, [], 0), (63, .getfield 9, 3, [(0, 2), (0, 0), (0, 2)], 0), (66, .iload_n 1, 1, [], 0), (67, .iaload, 1, [], 0), (68, .iconst (-1), 1, [((-1), 0)], 0), (69, .if_icmp .eq 23, 3, [(0, 92)], 0), (72, .aload_n 0, 1, [], 0), (73, .iload_n 1, 1, [], 0), (74, .iconst 1, 1, [(1, 0)], 0), (75, .iadd, 1, [], 0), (76, .iload_n 2, 1, [], 0), (77, .aload_n 0, 1, [], 0), (78, .getfield 9, 3, [(0, 2), (0, 0), (0, 2)], 0), (81, .iload_n 1, 1, [], 0), (82, .iaload, 1, [], 0), (83, .ior, 1, [], 0), (84, .invokevirtual 66, 3, [(0, 52)], 0), (87, .ifCond .eq 5, 3, [(0, 92)], 0), (90, .iconst 1, 1, [(1, 0)], 0), (91, .ireturn, 1, [], 0), (92, .aload_n 0, 1, [], 0), (93, .getfield 15, 3, [(0, 2), (0, 1), (0, 2)], 0), (96, .iload_n 1, 1, [], 0), (97, .iaload, 1, [], 0), (98, .iconst (-1), 1, [((-1), 0)], 0), (99, .if_icmp .eq 25, 3, [(0, 124)], 0), (102, .aload_n 0, 1, [], 0), (103, .iload_n 1, 1, [], 0), (104, .iconst 1, 1, [(1, 0)], 0), (105, .iadd, 1, [], 0), (106, .iload_n 2, 1, [], 0), (107, .aload_n 0, 1, [], 0), (108, .getfield 15, 3, [(0, 2), (0, 1), (0, 2)], 0), (111, .iload_n 1, 1, [], 0), (112, .iaload, 1, [], 0), (113, .ior, 1, [], 0), (114, .invokevirtual 66, 3, [(0, 52)], 0), (117, .ifCond .eq 7, 3, [(0, 124)], 0), (120, .iconst 1, 1, [(1, 0)], 0), (121, .goto 4, 3, [(0, 125)], 0), (124, .iconst 0, 1, [(0, 0)], 0), (125, .ireturn, 1, [], 0)]
def mX3_isShown : xM := (yX3_isShown, cX3_isShown, 3, (some .boolean), tX3_isShown, KX3, false)
abbrev nX3_isShown : Nat := 52
def tX3_showable : xT := [(0, .iconst 0, 1, [(0, 0)], 0), (1, .istore_n 3, 1, [], 0), (2, .iconst 0, 1, [(0, 0)], 0), (3, .istore 4, 2, [], 0), (5, .iload 4, 2, [], 0), (7, .aload_n 1, 1, [], 0), (8, .getfield 57, 3, [(0, 0), (0, 7), (0, 0)], 0), (11, .if_icmp .ge 43, 3, [(0, 54)], 0), (14, .aload_n 1, 1, [], 0), (15, .iload 4, 2, [], 0), (17, .invokevirtual 62, 3, [(0, 16)], 0), (20, .istore 5, 2, [], 0), (22, .aload_n 0, 1, [], 0), (23, .aload_n 1, 1, [], 0), (24, .iload_n 2, 1, [], 0), (25, .iload 5, 2, [], 0), (27, .iload 5, 2, [], 0), (29, .invokevirtual 24, 3, [(0, 43)], 0), (32, .aload_n 0, 1, [], 0), (33, .iconst 0, 1, [(0, 0)], 0), (34, .iconst 0, 1, [(0, 0)], 0), (35, .invokevirtual 66, 3, [(0, 52)], 0), (38, .ifCond .eq 10, 3, [(0, 48)], 0), (41, .iload_n 3, 1, [], 0), (42, .iconst 1, 1, [(1, 0)], 0), (43, .iload 4, 2, [], 0), (45, .ishl, 1, [], 0), (46, .ior, 1, [], 0), (47, .istore_n 3, 1, [], 0), (48, .iinc 4 1, 3, [(1, 0)], 0), (51, .goto (-46), 3, [(0, 5)], 0), (54, .iload_n 3, 1, [], 0), (55, .ireturn, 1, [], 0)]
def mX3_showable : xM := (yX3_showable, cX3_showable, 6, (some .int), tX3_showable, KX3, false)
abbrev nX3_showable : Nat := 53
def tX4_layAll : xT := [(0, .aload_n 0, 1, [], 0), (1, .getfield 15, 3, [(0, 3), (0, 1), (0, 2)], 0), (4, .iconst 0, 1, [(0, 0)], 0), (5, .iconst 0, 1, [(0, 0)], 0), (6, .iastore, 1, [], 0), (7, .iconst 0, 1, [(0, 0)], 0), (8, .istore_n 3, 1, [], 0), (9, .iload_n 3, 1, [], 0), (10, .iload_n 2, 1, [], 0), (11, .if_icmp .ge 57, 3, [(0, 68)], 0), (14, .aload_n 1, 1, [], 0), (15, .iload_n 3, 1, [], 0), (16, .invokevirtual 58, 3, [(0, 18)], 0), (19, .istore 4, 2, [], 0), (21, .iconst 1, 1, [(1, 0)], 0), (22, .iload_n 3, 1, [], 0), (23, .ishl, 1, [], 0), (24, .istore 5, 2, [], 0), (26, .iconst 0, 1, [(0, 0)], 0), (27, .istore 6, 2, [], 0), (29, .iload 6, 2, [], 0), (31, .iload 5, 2, [], 0), (33, .if_icmp .ge 29, 3, [(0, 62)], 0), (36, .aload_n 0, 1, [], 0), (37, .getfield 15, 3, [(0, 3), (0, 1), (0, 2)], 0), (40, .iload 5, 2, [], 0), (42, .iload 6, 2, [], 0), (44, .iadd, 1, [], 0), (45, .aload_n 0, 1, [], 0), (46, .getfield 15, 3, [(0, 3), (0, 1), (0, 2)], 0), (49, .iload 6, 2, [], 0), (51, .iaload, 1, [], 0), (52, .iload 4, 2, [], 0), (54, .ior, 1, [], 0), (55, .iastore, 1, [], 0), (56, .iinc 6 1, 3, [(1, 0)], 0), (59, .goto (-30), 3, [(0, 29)], 0), (62, .iinc 3 1, 3, [(1, 0)], 0), (65, .goto (-56), 3, [(0, 9)], 0), (68, .return_, 1, [], 0)]
def mX4_layAll : xM := (yX4_layAll, cX4_layAll, 7, none, tX4_layAll, KX4, false)
abbrev nX4_layAll : Nat := 54
def tX4_isShownByOne : xT := [(0, .iconst 0, 1, [(0, 0)], 0), (1, .istore_n 3, 1, [], 0), (2, .iload_n 3, 1, [], 0), (3, .iload_n 2, 1, [], 0), (4, .if_icmp .ge 21, 3, [(0, 25)], 0), (7, .aload_n 0, 1, [], 0), (8, .getfield 15, 3, [(0, 3), (0, 1), (0, 2)], 0), (11, .iload_n 3, 1, [], 0), (12, .iaload, 1, [], 0), (13, .iload_n 1, 1, [], 0), (14, .if_icmp .ne 5, 3, [(0, 19)], 0), (17, .iconst 1, 1, [(1, 0)], 0), (18, .ireturn, 1, [], 0), (19, .iinc 3 1, 3, [(1, 0)], 0), (22, .goto (-20), 3, [(0, 2)], 0), (25, .iconst 0, 1, [(0, 0)], 0), (26, .ireturn, 1, [], 0)]
def mX4_isShownByOne : xM := (yX4_isShownByOne, cX4_isShownByOne, 4, (some .boolean), tX4_isShownByOne, KX4, false)
abbrev nX4_isShownByOne : Nat := 55
def tX4_findStops : xT := [(0, .iconst 0, 1, [(0, 0)], 0), (1, .istore_n 3, 1, [], 0), (2, .iconst 0, 1, [(0, 0)], 0), (3, .istore 4, 2, [], 0), (5, .iload 4, 2, [], 0), (7, .aload_n 1, 1, [], 0), (8, .getfield 61, 3, [(0, 0), (0, 7), (0, 0)], 0), (11, .if_icmp .ge 46, 3, [(0, 57)], 0), (14, .aload_n 1, 1, [], 0), (15, .iload 4, 2, [], 0), (17, .invokevirtual 64, 3, [(0, 16)], 0), (20, .istore 5, 2, [], 0), (22, .aload_n 0, 1, [], 0), (23, .iload 5, 2, [], 0), (25, .iload_n 2, 1, [], 0), (26, .invokevirtual 67, 3, [(0, 55)], 0), (29, .ifCond .ne 6, 3, [(0, 35)], 0), (32, .goto 19, 3, [(0, 51)], 0), (35, .iload_n 3, 1, [], 0), (36, .iconst 4, 1, [(4, 0)], 0), (37, .if_icmp .ge 11, 3, [(0, 48)], 0), (40, .aload_n 0, 1, [], 0), (41, .getfield 11, 3, [(0, 3), (0, 0), (0, 2)], 0), (44, .iload_n 3, 1, [], 0), (45, .iload 5, 2, [], 0), (47, .iastore, 1, [], 0), (48, .iinc 3 1, 3, [(1, 0)], 0), (51, .iinc 4 1, 3, [(1, 0)], 0), (54, .goto (-49), 3, [(0, 5)], 0), (57, .iload_n 3, 1, [], 0), (58, .ireturn, 1, [], 0)]
def mX4_findStops : xM := (yX4_findStops, cX4_findStops, 6, (some .int), tX4_findStops, KX4, false)
abbrev nX4_findStops : Nat := 56
def tX4_arrive : xT := [(0, .iload_n 1, 1, [], 0), (1, .sipush 256, 3, [(256, 0)], 0), (4, .imul, 1, [], 0), (5, .istore 4, 2, [], 0), (7, .iconst 0, 1, [(0, 0)], 0), (8, .istore 5, 2, [], 0), (10, .iload 5, 2, [], 0), (12, .iload_n 3, 1, [], 0), (13, .if_icmp .ge 97, 3, [(0, 110)], 0), (16, .sipush 1000, 3, [(1000, 0)], 0), (19, .istore 6, 2, [], 0), (21, .iconst 0, 1, [(0, 0)], 0), (22, .istore 7, 2, [], 0), (24, .iload 7, 2, [], 0), (26, .iload_n 2, 1, [], 0), (27, .if_icmp .ge 65, 3, [(0, 92)], 0), (30, .iconst 1, 1, [(1, 0)], 0), (31, .iload 7, 2, [], 0), (33, .ishl, 1, [], 0), (34, .istore 8, 2, [], 0), (36, .iload_n 1, 1, [], 0), (37, .iload 8, 2, [], 0), (39, .iand, 1, [], 0), (40, .ifCond .eq 46, 3, [(0, 86)], 0), (43, .aload_n 0, 1, [], 0), (44, .getfield 15, 3, [(0, 3), (0, 1), (0, 2)], 0), (47, .iload 5, 2, [], 0), (49, .iaload, 1, [], 0), (50, .aload_n 0, 1, [], 0), (51, .getfield 11, 3, [(0, 3), (0, 0), (0, 2)], 0), (54, .iload 7, 2, [], 0), (56, .iaload, 1, [], 0), (57, .if_icmp .eq 6, 3, [(0, 63)], 0), (60, .goto 26, 3, [(0, 86)], 0), (63, .iload 6, 2, [], 0), (65, .aload_n 0, 1, [], 0), (66, .getfield 18, 3, [(0, 3), (0, 2), (0, 2)], 0), (69, .iload_n 1, 1, [], 0), (70, .iload 8, 2, [], 0), (72, .ixor, 1, [], 0), (73, .sipush 256, 3, [(256, 0)], 0), (76, .imul, 1, [], 0), (77, .iload 5, 2, [], 0), (79, .iadd, 1, [], 0), (80, .iaload, 1, [], 0), (81, .invokestatic 27, 3, [(0, 0), (0, 0)], 0), (84, .istore 6, 2, [], 0), (86, .iinc 7 1, 3, [(1, 0)], 0), (89, .goto (-65), 3, [(0, 24)], 0), (92, .aload_n 0, 1, [], 0), (93, .getfield 18, 3, [(0, 3), (0, 2), (0, 2)], 0), (96, .iload 4, 2, [], 0), (98, .iload 5, 2, [], 0), (100, .iadd, 1, [], 0), (101, .iload 6, 2, [], 0), (103, .iastore, 1, [], 0), (104, .iinc 5 1, 3, [(1, 0)], 0), (107, .goto (-97), 3, [(0, 10)], 0), (110, .return_, 1, [], 0)]
def mX4_arrive : xM := (yX4_arrive, cX4_arrive, 9, none, tX4_arrive, KX4, false)
abbrev nX4_arrive : Nat := 57
def tX4_walk : xT := [(0, .iload_n 1, 1, [], 0), (1, .sipush 256, 3, [(256, 0)], 0), (4, .imul, 1, [], 0), (5, .istore_n 3, 1, [], 0), (6, .iconst 0, 1, [(0, 0)], 0), (7, .istore 4, 2, [], 0), (9, .iload 4, 2, [], 0), (11, .iload_n 2, 1, [], 0), (12, .if_icmp .ge 71, 3, [(0, 83)], 0), (15, .iconst 1, 1, [(1, 0)], 0), (16, .iload 4, 2, [], 0), (18, .ishl, 1, [], 0), (19, .istore 5, 2, [], 0), (21, .iconst 0, 1, [(0, 0)], 0), (22, .istore 6, 2, [], 0), (24, .iload 6, 2, [], 0), (26, .iconst 1, 1, [(1, 0)], 0), (27, .iload_n 2, 1, [], 0), (28, .ishl, 1, [], 0), (29, .if_icmp .ge 48, 3, [(0, 77)], 0), (32, .iload_n 3, 1, [], 0), (33, .iload 6, 2, [], 0), (35, .iload 5, 2, [], 0), (37, .ixor, 1, [], 0), (38, .iadd, 1, [], 0), (39, .istore 7, 2, [], 0), (41, .aload_n 0, 1, [], 0), (42, .getfield 18, 3, [(0, 3), (0, 2), (0, 2)], 0), (45, .iload_n 3, 1, [], 0), (46, .iload 6, 2, [], 0), (48, .iadd, 1, [], 0), (49, .aload_n 0, 1, [], 0), (50, .getfield 18, 3, [(0, 3), (0, 2), (0, 2)], 0), (53, .iload_n 3, 1, [], 0), (54, .iload 6, 2, [], 0), (56, .iadd, 1, [], 0), (57, .iaload, 1, [], 0), (58, .aload_n 0, 1, [], 0), (59, .getfield 18, 3, [(0, 3), (0, 2), (0, 2)], 0), (62, .iload 7, 2, [], 0), (64, .iaload, 1, [], 0), (65, .iconst 1, 1, [(1, 0)], 0), (66, .iadd, 1, [], 0), (67, .invokestatic 27, 3, [(0, 0), (0, 0)], 0), (70, .iastore, 1, [], 0), (71, .iinc 6 1, 3, [(1, 0)], 0), (74, .goto (-50), 3, [(0, 24)], 0), (77, .iinc 4 1, 3, [(1, 0)], 0), (80, .goto (-71), 3, [(0, 9)], 0), (83, .return_, 1, [], 0)]
def mX4_walk : xM := (yX4_walk, cX4_walk, 8, none, tX4_walk, KX4, false)
abbrev nX4_walk : Nat := 58
def tX4_leastSteps : xT := [(0, .sipush 1000, 3, [(1000, 0)], 0), (3, .istore_n 3, 1, [], 0), (4, .iconst 0, 1, [(0, 0)], 0), (5, .istore 4, 2, [], 0), (7, .iload 4, 2, [], 0), (9, .iload_n 2, 1, [], 0), (10, .if_icmp .ge 27, 3, [(0, 37)], 0), (13, .iload_n 3, 1, [], 0), (14, .aload_n 0, 1, [], 0), (15, .getfield 18, 3, [(0, 3), (0, 2), (0, 2)], 0), (18, .iload_n 1, 1, [], 0), (19, .sipush 256, 3, [(256, 0)], 0), (22, .imul, 1, [], 0), (23, .iload 4, 2, [], 0), (25, .iadd, 1, [], 0), (26, .iaload, 1, [], 0), (27, .invokestatic 27, 3, [(0, 0), (0, 0)], 0), (30, .istore_n 3, 1, [], 0), (31, .iinc 4 1, 3, [(1, 0)], 0), (34, .goto (-27), 3, [(0, 7)], 0), (37, .iload_n 3, 1, [], 0), (38, .ireturn, 1, [], 0)]
def mX4_leastSteps : xM := (yX4_leastSteps, cX4_leastSteps, 5, (some .int), tX4_leastSteps, KX4, false)
abbrev nX4_leastSteps : Nat := 59
def tX4_leastCost : xT := [(0, .aload_n 1, 1, [], 0), (1, .getfield 21, 3, [(0, 0), (0, 6), (0, 0)], 0), (4, .bipush 8, 2, [(8, 0)], 0), (6, .invokestatic 27, 3, [(0, 0), (0, 0)], 0), (9, .istore_n 2, 1, [], 0), (10, .aload_n 0, 1, [], 0), (11, .aload_n 1, 1, [], 0), (12, .iload_n 2, 1, [], 0), (13, .invokevirtual 33, 3, [(0, 54)], 0), (16, .aload_n 0, 1, [], 0), (17, .aload_n 1, 1, [], 0), (18, .iconst 1, 1, [(1, 0)], 0), (19, .iload_n 2, 1, [], 0), (20, .ishl, 1, [], 0), (21, .invokevirtual 37, 3, [(0, 56)], 0), (24, .istore_n 3, 1, [], 0), (25, .iload_n 3, 1, [], 0), (26, .iconst 1, 1, [(1, 0)], 0), (27, .if_icmp .lt 8, 3, [(0, 35)], 0), (30, .iload_n 3, 1, [], 0), (31, .iconst 4, 1, [(4, 0)], 0), (32, .if_icmp .le 5, 3, [(0, 37)], 0), (35, .iconst (-1), 1, [((-1), 0)], 0), (36, .ireturn, 1, [], 0), (37, .iconst 1, 1, [(1, 0)], 0), (38, .iload_n 3, 1, [], 0), (39, .ishl, 1, [], 0), (40, .iconst 1, 1, [(1, 0)], 0), (41, .isub, 1, [], 0), (42, .istore 4, 2, [], 0), (44, .iconst 0, 1, [(0, 0)], 0), (45, .istore 5, 2, [], 0), (47, .iload 5, 2, [], 0), (49, .iconst 1, 1, [(1, 0)], 0), (50, .iload_n 2, 1, [], 0), (51, .ishl, 1, [], 0), (52, .if_icmp .ge 21, 3, [(0, 73)], 0), (55, .aload_n 0, 1, [], 0), (56, .getfield 18, 3, [(0, 3), (0, 2), (0, 2)], 0), (59, .iload 5, 2, [], 0), (61, .iload 5, 2, [], 0), (63, .invokestatic 41, 3, [(0, 13)], 0), (66, .iastore, 1, [], 0), (67, .iinc 5 1, 3, [(1, 0)], 0), (70, .goto (-23), 3, [(0, 47)], 0), (73, .iconst 1, 1, [(1, 0)], 0), (74, .istore 5, 2, [], 0), (76, .iload 5, 2, [], 0), (78, .iload 4, 2, [], 0), (80, .if_icmp .gt 33, 3, [(0, 113)], 0), (83, .aload_n 0, 1, [], 0), (84, .iload 5, 2, [], 0), (86, .iload_n 3, 1, [], 0), (87, .iconst 1, 1, [(1, 0)], 0), (88, .iload_n 2, 1, [], 0), (89, .ishl, 1, [], 0), (90, .invokevirtual 47, 3, [(0, 57)], 0), (93, .iload 5, 2, [], 0), (95, .iload 4, 2, [], 0), (97, .if_icmp .ge 10, 3, [(0, 107)], 0), (100, .aload_n 0, 1, [], 0), (101, .iload 5, 2, [], 0), (103, .iload_n 2, 1, [], 0), (104, .invokevirtual 51, 3, [(0, 58)], 0), (107, .iinc 5 1, 3, [(1, 0)], 0), (110, .goto (-34), 3, [(0, 76)], 0), (113, .aload_n 0, 1, [], 0), (114, .iload 4, 2, [], 0), (116, .iconst 1, 1, [(1, 0)], 0), (117, .iload_n 2, 1, [], 0), (118, .ishl, 1, [], 0), (119, .invokevirtual 55, 3, [(0, 59)], 0), (122, .ireturn, 1, [], 0)]
def mX4_leastCost : xM := (yX4_leastCost, cX4_leastCost, 6, (some .int), tX4_leastCost, KX4, false)
abbrev nX4_leastCost : Nat := 60
def tX5_wrongNumber : xT := [(0, .iload_n 0, 1, [], 0), (1, .iload_n 1, 1, [], 0), (2, .if_icmp .ge 6, 3, [(0, 8)], 0), (5, .bipush (-4), 2, [((-4), 0)], 0), (7, .ireturn, 1, [], 0), (8, .iload_n 0, 1, [], 0), (9, .iload_n 2, 1, [], 0), (10, .if_icmp .le 8, 3, [(0, 18)], 0), (13, .bipush (-6), 2, [((-6), 0)], 0), (15, .goto 4, 3, [(0, 19)], 0), (18, .iconst 0, 1, [(0, 0)], 0), (19, .ireturn, 1, [], 0)]
def mX5_wrongNumber : xM := (yX5_wrongNumber, cX5_wrongNumber, 3, (some .int), tX5_wrongNumber, KX5, true)
abbrev nX5_wrongNumber : Nat := 61
def tX5_refused : xT := [(0, .iload_n 1, 1, [], 0), (1, .ifCond .ge 20, 3, [(0, 21)], 0), (4, .iload_n 1, 1, [], 0), (5, .bipush (-6), 2, [((-6), 0)], 0), (7, .if_icmp .lt 14, 3, [(0, 21)], 0), (10, .aload_n 0, 1, [], 0), (11, .getfield 47, 3, [(0, 4), (0, 9), (0, 2)], 0), (14, .iload_n 1, 1, [], 0), (15, .ineg, 1, [], 0), (16, .dup2, 1, [], 0), (17, .iaload, 1, [], 0), (18, .iconst 1, 1, [(1, 0)], 0), (19, .iadd, 1, [], 0), (20, .iastore, 1, [], 0), (21, .iload_n 1, 1, [], 0), (22, .ireturn, 1, [], 0)]
def mX5_refused : xM := (yX5_refused, cX5_refused, 2, (some .int), tX5_refused, KX5, false)
abbrev nX5_refused : Nat := 62
def tX5_feed : xT := [(0, .iload_n 1, 1, [], 0), (1, .iconst 0, 1, [(0, 0)], 0), (2, .sipush 255, 3, [(255, 0)], 0), (5, .invokestatic 50, 3, [(0, 61)], 0), (8, .istore_n 2, 1, [], 0), (9, .iload_n 2, 1, [], 0), (10, .ifCond .ne 16, 3, [(0, 26)], 0), (13, .aload_n 0, 1, [], 0), (14, .getfield 25, 3, [(0, 4), (0, 4), (0, 2)], 0), (17, .invokevirtual 54, 3, [(0, 28)], 0), (20, .ifCond .eq 6, 3, [(0, 26)], 0), (23, .bipush (-6), 2, [((-6), 0)], 0), (25, .istore_n 2, 1, [], 0), (26, .iload_n 2, 1, [], 0), (27, .ifCond .eq 11, 3, [(0, 38)], 0), (30, .aload_n 0, 1, [], 0), (31, .iload_n 2, 1, [], 0), (32, .invokevirtual 58, 3, [(0, 62)], 0), (35, .goto 11, 3, [(0, 46)], 0), (38, .aload_n 0, 1, [], 0), (39, .getfield 25, 3, [(0, 4), (0, 4), (0, 2)], 0), (42, .iload_n 1, 1, [], 0), (43, .invokevirtual 62, 3, [(0, 29)], 0), (46, .ireturn, 1, [], 0)]
def mX5_feed : xM := (yX5_feed, cX5_feed, 3, (some .int), tX5_feed, KX5, false)
abbrev nX5_feed : Nat := 63
def tX5_lantern : xT := [(0, .aload_n 0, 1, [], 0), (1, .getfield 25, 3, [(0, 4), (0, 4), (0, 2)], 0), (4, .invokevirtual 65, 3, [(0, 34)], 0), (7, .istore_n 1, 1, [], 0), (8, .iload_n 1, 1, [], 0), (9, .ifCond .ne 41, 3, [(0, 50)], 0), (12, .aload_n 0, 1, [], 0), (13, .getfield 16, 3, [(0, 4), (0, 1), (0, 2)], 0), (16, .aload_n 0, 1, [], 0), (17, .getfield 10, 3, [(0, 4), (0, 0), (0, 2)], 0), (20, .invokevirtual 69, 3, [(0, 6)], 0), (23, .aload_n 0, 1, [], 0), (24, .getfield 25, 3, [(0, 4), (0, 4), (0, 2)], 0), (27, .aload_n 0, 1, [], 0), (28, .getfield 16, 3, [(0, 4), (0, 1), (0, 2)], 0), (31, .invokevirtual 73, 3, [(0, 40)], 0), (34, .istore_n 1, 1, [], 0), (35, .iload_n 1, 1, [], 0), (36, .ifCond .le 14, 3, [(0, 50)], 0), (39, .aload_n 0, 1, [], 0), (40, .getfield 10, 3, [(0, 4), (0, 0), (0, 2)], 0), (43, .aload_n 0, 1, [], 0), (44, .getfield 16, 3, [(0, 4), (0, 1), (0, 2)], 0), (47, .invokevirtual 69, 3, [(0, 6)], 0), (50, .aload_n 0, 1, [], 0), (51, .getfield 25, 3, [(0, 4), (0, 4), (0, 2)], 0), (54, .invokevirtual 77, 3, [(0, 30)], 0), (57, .iload_n 1, 1, [], 0), (58, .ireturn, 1, [], 0)]
def mX5_lantern : xM := (yX5_lantern, cX5_lantern, 2, (some .int), tX5_lantern, KX5, false)
abbrev nX5_lantern : Nat := 64
def tX5_wrongSlide : xT := [(0, .aload_n 0, 1, [], 0), (1, .getfield 10, 3, [(0, 4), (0, 0), (0, 2)], 0), (4, .iload_n 1, 1, [], 0), (5, .invokevirtual 159, 3, [(0, 10)], 0), (8, .ifCond .eq 7, 3, [(0, 15)], 0), (11, .iconst 0, 1, [(0, 0)], 0), (12, .goto 4, 3, [(0, 16)], 0), (15, .iconst (-1), 1, [((-1), 0)], 0), (16, .ireturn, 1, [], 0)]
def mX5_wrongSlide : xM := (yX5_wrongSlide, cX5_wrongSlide, 2, (some .int), tX5_wrongSlide, KX5, false)
abbrev nX5_wrongSlide : Nat := 65
def tX5_wrongWhat : xT := [(0, .iload_n 0, 1, [], 0), (1, .ifCond .lt 8, 3, [(0, 9)], 0), (4, .iload_n 0, 1, [], 0), (5, .iload_n 1, 1, [], 0), (6, .if_icmp .le 8, 3, [(0, 14)], 0), (9, .bipush (-2), 2, [((-2), 0)], 0), (11, .goto 4, 3, [(0, 15)], 0), (14, .iconst 0, 1, [(0, 0)], 0), (15, .ireturn, 1, [], 0)]
def mX5_wrongWhat : xM := (yX5_wrongWhat, cX5_wrongWhat, 2, (some .int), tX5_wrongWhat, KX5, true)
abbrev nX5_wrongWhat : Nat := 66
def tX5_first : xT := [(0, .iload_n 0, 1, [], 0), (1, .ifCond .eq 7, 3, [(0, 8)], 0), (4, .iload_n 0, 1, [], 0), (5, .goto 4, 3, [(0, 9)], 0), (8, .iload_n 1, 1, [], 0), (9, .ireturn, 1, [], 0)]
def mX5_first : xM := (yX5_first, cX5_first, 2, (some .int), tX5_first, KX5, true)
abbrev nX5_first : Nat := 67
def tX5_slide : xT := [(0, .aload_n 0, 1, [], 0), (1, .iload_n 1, 1, [], 0), (2, .invokevirtual 80, 3, [(0, 65)], 0), (5, .iload_n 2, 1, [], 0), (6, .iconst 5, 1, [(5, 0)], 0), (7, .invokestatic 83, 3, [(0, 66)], 0), (10, .invokestatic 87, 3, [(0, 67)], 0), (13, .istore_n 3, 1, [], 0), (14, .iload_n 3, 1, [], 0), (15, .ifCond .eq 11, 3, [(0, 26)], 0), (18, .aload_n 0, 1, [], 0), (19, .iload_n 3, 1, [], 0), (20, .invokevirtual 58, 3, [(0, 62)], 0), (23, .goto 12, 3, [(0, 35)], 0), (26, .aload_n 0, 1, [], 0), (27, .getfield 10, 3, [(0, 4), (0, 0), (0, 2)], 0), (30, .iload_n 1, 1, [], 0), (31, .iload_n 2, 1, [], 0), (32, .invokevirtual 90, 3, [(0, 19)], 0), (35, .ireturn, 1, [], 0)]
def mX5_slide : xM := (yX5_slide, cX5_slide, 4, (some .int), tX5_slide, KX5, false)
abbrev nX5_slide : Nat := 68
def tX5_wanted : xT := [(0, .aload_n 0, 1, [], 0), (1, .getfield 10, 3, [(0, 4), (0, 0), (0, 2)], 0), (4, .iload_n 1, 1, [], 0), (5, .invokevirtual 93, 3, [(0, 12)], 0), (8, .ifCond .eq 14, 3, [(0, 22)], 0), (11, .aload_n 0, 1, [], 0), (12, .getfield 10, 3, [(0, 4), (0, 0), (0, 2)], 0), (15, .iload_n 1, 1, [], 0), (16, .invokevirtual 97, 3, [(0, 16)], 0), (19, .goto 8, 3, [(0, 27)], 0), (22, .aload_n 0, 1, [], 0), (23, .iconst (-1), 1, [((-1), 0)], 0), (24, .invokevirtual 58, 3, [(0, 62)], 0), (27, .ireturn, 1, [], 0)]
def mX5_wanted : xM := (yX5_wanted, cX5_wanted, 2, (some .int), tX5_wanted, KX5, false)
abbrev nX5_wanted : Nat := 69
def tX5_heat : xT := [(0, .iload_n 1, 1, [], 0), (1, .iconst 1, 1, [(1, 0)], 0), (2, .bipush 9, 2, [(9, 0)], 0), (4, .invokestatic 50, 3, [(0, 61)], 0), (7, .istore_n 2, 1, [], 0), (8, .iload_n 2, 1, [], 0), (9, .ifCond .eq 9, 3, [(0, 18)], 0), (12, .aload_n 0, 1, [], 0), (13, .iload_n 2, 1, [], 0), (14, .invokevirtual 58, 3, [(0, 62)], 0), (17, .ireturn, 1, [], 0), (18, .aload_n 0, 1, [], 0), (19, .getfield 10, 3, [(0, 4), (0, 0), (0, 2)], 0), (22, .getfield 100, 3, [(0, 0), (0, 8), (0, 0)], 0), (25, .istore_n 3, 1, [], 0), (26, .aload_n 0, 1, [], 0), (27, .getfield 10, 3, [(0, 4), (0, 0), (0, 2)], 0), (30, .iload_n 1, 1, [], 0), (31, .putfield 100, 3, [(0, 0), (0, 8), (0, 0)], 0), (34, .iload_n 3, 1, [], 0), (35, .ireturn, 1, [], 0)]
def mX5_heat : xM := (yX5_heat, cX5_heat, 4, (some .int), tX5_heat, KX5, false)
abbrev nX5_heat : Nat := 70
def tX5_price : xT := [(0, .aload_n 0, 1, [], 0), (1, .iload_n 1, 1, [], 0), (2, .invokevirtual 80, 3, [(0, 65)], 0), (5, .iload_n 2, 1, [], 0), (6, .iconst 0, 1, [(0, 0)], 0), (7, .bipush 99, 2, [(99, 0)], 0), (9, .invokestatic 50, 3, [(0, 61)], 0), (12, .invokestatic 87, 3, [(0, 67)], 0), (15, .istore_n 3, 1, [], 0), (16, .iload_n 3, 1, [], 0), (17, .ifCond .eq 11, 3, [(0, 28)], 0), (20, .aload_n 0, 1, [], 0), (21, .iload_n 3, 1, [], 0), (22, .invokevirtual 58, 3, [(0, 62)], 0), (25, .goto 12, 3, [(0, 37)], 0), (28, .aload_n 0, 1, [], 0), (29, .getfield 10, 3, [(0, 4), (0, 0), (0, 2)], 0), (32, .iload_n 1, 1, [], 0), (33, .iload_n 2, 1, [], 0), (34, .invokevirtual 104, 3, [(0, 20)], 0), (37, .ireturn, 1, [], 0)]
def mX5_price : xM := (yX5_price, cX5_price, 4, (some .int), tX5_price, KX5, false)
abbrev nX5_price : Nat := 71
def tX5_wrongSet : xT := [(0, .aload_n 0, 1, [], 0), (1, .getfield 10, 3, [(0, 4), (0, 0), (0, 2)], 0), (4, .iload_n 1, 1, [], 0), (5, .invokevirtual 207, 3, [(0, 11)], 0), (8, .ifCond .eq 7, 3, [(0, 15)], 0), (11, .iconst 0, 1, [(0, 0)], 0), (12, .goto 4, 3, [(0, 16)], 0), (15, .iconst (-1), 1, [((-1), 0)], 0), (16, .ireturn, 1, [], 0)]
def mX5_wrongSet : xM := (yX5_wrongSet, cX5_wrongSet, 2, (some .int), tX5_wrongSet, KX5, false)
abbrev nX5_wrongSet : Nat := 72
def tX5_lay : xT := [(0, .aload_n 0, 1, [], 0), (1, .iload_n 1, 1, [], 0), (2, .invokevirtual 107, 3, [(0, 72)], 0), (5, .aload_n 0, 1, [], 0), (6, .iload_n 2, 1, [], 0), (7, .invokevirtual 107, 3, [(0, 72)], 0), (10, .invokestatic 87, 3, [(0, 67)], 0), (13, .istore_n 3, 1, [], 0), (14, .iload_n 3, 1, [], 0), (15, .ifCond .eq 11, 3, [(0, 26)], 0), (18, .aload_n 0, 1, [], 0), (19, .iload_n 3, 1, [], 0), (20, .invokevirtual 58, 3, [(0, 62)], 0), (23, .goto 12, 3, [(0, 35)], 0), (26, .aload_n 0, 1, [], 0), (27, .getfield 10, 3, [(0, 4), (0, 0), (0, 2)], 0), (30, .iload_n 1, 1, [], 0), (31, .iload_n 2, 1, [], 0), (32, .invokevirtual 110, 3, [(0, 21)], 0), (35, .ireturn, 1, [], 0)]
def mX5_lay : xM := (yX5_lay, cX5_lay, 4, (some .int), tX5_lay, KX5, false)
abbrev nX5_lay : Nat := 73
def tX5_project : xT := [(0, .aload_n 0, 1, [], 0), (1, .iload_n 1, 1, [], 0), (2, .invokevirtual 107, 3, [(0, 72)], 0), (5, .istore_n 2, 1, [], 0), (6, .iload_n 2, 1, [], 0), (7, .ifCond .ne 17, 3, [(0, 24)], 0), (10, .aload_n 0, 1, [], 0), (11, .getfield 10, 3, [(0, 4), (0, 0), (0, 2)], 0), (14, .iload_n 1, 1, [], 0), (15, .invokevirtual 113, 3, [(0, 14)], 0), (18, .ifCond .ne 6, 3, [(0, 24)], 0), (21, .bipush (-3), 2, [((-3), 0)], 0), (23, .istore_n 2, 1, [], 0), (24, .iload_n 2, 1, [], 0), (25, .ifCond .eq 11, 3, [(0, 36)], 0), (28, .aload_n 0, 1, [], 0), (29, .iload_n 2, 1, [], 0), (30, .invokevirtual 58, 3, [(0, 62)], 0), (33, .goto 11, 3, [(0, 44)], 0), (36, .aload_n 0, 1, [], 0), (37, .getfield 10, 3, [(0, 4), (0, 0), (0, 2)], 0), (40, .iload_n 1, 1, [], 0), (41, .invokevirtual 116, 3, [(0, 23)], 0), (44, .ireturn, 1, [], 0)]
def mX5_project : xM := (yX5_project, cX5_project, 3, (some .int), tX5_project, KX5, false)
abbrev nX5_project : Nat := 74
def tX5_wrongAsked : xT := [(0, .iload_n 1, 1, [], 0), (1, .iload_n 2, 1, [], 0), (2, .invokestatic 83, 3, [(0, 66)], 0), (5, .iload_n 0, 1, [], 0), (6, .iconst 0, 1, [(0, 0)], 0), (7, .ldc 122, 2, [(65535, 0)], 0), (9, .invokestatic 50, 3, [(0, 61)], 0), (12, .invokestatic 87, 3, [(0, 67)], 0), (15, .ireturn, 1, [], 0)]
def mX5_wrongAsked : xM := (yX5_wrongAsked, cX5_wrongAsked, 3, (some .int), tX5_wrongAsked, KX5, true)
abbrev nX5_wrongAsked : Nat := 75
def tX5_gaps : xT := [(0, .iload_n 1, 1, [], 0), (1, .iload_n 2, 1, [], 0), (2, .iconst 1, 1, [(1, 0)], 0), (3, .invokestatic 119, 3, [(0, 75)], 0), (6, .istore_n 3, 1, [], 0), (7, .iload_n 3, 1, [], 0), (8, .ifCond .eq 9, 3, [(0, 17)], 0), (11, .aload_n 0, 1, [], 0), (12, .iload_n 3, 1, [], 0), (13, .invokevirtual 58, 3, [(0, 62)], 0), (16, .ireturn, 1, [], 0), (17, .ldc 122, 2, [(65535, 0)], 0), (19, .iload_n 1, 1, [], 0), (20, .iconst (-1), 1, [((-1), 0)], 0), (21, .ixor, 1, [], 0), (22, .iand, 1, [], 0), (23, .istore 4, 2, [], 0), (25, .iload_n 2, 1, [], 0), (26, .ifCond .ne 11, 3, [(0, 37)], 0), (29, .iload 4, 2, [], 0), (31, .invokestatic 123, 3, [(0, 13)], 0), (34, .goto 8, 3, [(0, 42)], 0), (37, .iload 4, 2, [], 0), (39, .invokestatic 128, 3, [(0, 5)], 0), (42, .ireturn, 1, [], 0)]
def mX5_gaps : xM := (yX5_gaps, cX5_gaps, 5, (some .int), tX5_gaps, KX5, false)
abbrev nX5_gaps : Nat := 76
def tX5_nearest : xT := [(0, .iload_n 1, 1, [], 0), (1, .iload_n 2, 1, [], 0), (2, .iconst 1, 1, [(1, 0)], 0), (3, .invokestatic 119, 3, [(0, 75)], 0), (6, .istore_n 3, 1, [], 0), (7, .iload_n 3, 1, [], 0), (8, .ifCond .eq 9, 3, [(0, 17)], 0), (11, .aload_n 0, 1, [], 0), (12, .iload_n 3, 1, [], 0), (13, .invokevirtual 58, 3, [(0, 62)], 0), (16, .ireturn, 1, [], 0), (17, .aload_n 0, 1, [], 0), (18, .getfield 10, 3, [(0, 4), (0, 0), (0, 2)], 0), (21, .iload_n 1, 1, [], 0), (22, .invokevirtual 133, 3, [(0, 24)], 0), (25, .istore 4, 2, [], 0), (27, .iload 4, 2, [], 0), (29, .ifCond .ge 6, 3, [(0, 35)], 0), (32, .bipush (-9), 2, [((-9), 0)], 0), (34, .ireturn, 1, [], 0), (35, .iload_n 2, 1, [], 0), (36, .ifCond .ne 8, 3, [(0, 44)], 0), (39, .iload 4, 2, [], 0), (41, .goto 17, 3, [(0, 58)], 0), (44, .aload_n 0, 1, [], 0), (45, .getfield 10, 3, [(0, 4), (0, 0), (0, 2)], 0), (48, .iload 4, 2, [], 0), (50, .invokevirtual 97, 3, [(0, 16)], 0), (53, .iload_n 1, 1, [], 0), (54, .ixor, 1, [], 0), (55, .invokestatic 123, 3, [(0, 13)], 0), (58, .ireturn, 1, [], 0)]
def mX5_nearest : xM := (yX5_nearest, cX5_nearest, 5, (some .int), tX5_nearest, KX5, false)
abbrev nX5_nearest : Nat := 77
def tX5_fewest : xT := [(0, .iload_n 1, 1, [], 0), (1, .iload_n 2, 1, [], 0), (2, .iconst 3, 1, [(3, 0)], 0), (3, .invokestatic 119, 3, [(0, 75)], 0), (6, .istore_n 3, 1, [], 0), (7, .iload_n 3, 1, [], 0), (8, .ifCond .eq 9, 3, [(0, 17)], 0), (11, .aload_n 0, 1, [], 0), (12, .iload_n 3, 1, [], 0), (13, .invokevirtual 58, 3, [(0, 62)], 0), (16, .ireturn, 1, [], 0), (17, .aload_n 0, 1, [], 0), (18, .getfield 32, 3, [(0, 4), (0, 5), (0, 2)], 0), (21, .aload_n 0, 1, [], 0), (22, .getfield 10, 3, [(0, 4), (0, 0), (0, 2)], 0), (25, .iload_n 1, 1, [], 0), (26, .invokevirtual 136, 3, [(0, 47)], 0), (29, .ifCond .ne 6, 3, [(0, 35)], 0), (32, .bipush (-9), 2, [((-9), 0)], 0), (34, .ireturn, 1, [], 0), (35, .iload_n 2, 1, [], 0), (36, .tableswitch 52 0 2 #[28, 36, 44], 28, [(0, 88), (0, 64), (1, 72), (2, 80)], 0), (64, .aload_n 0, 1, [], 0), (65, .getfield 32, 3, [(0, 4), (0, 5), (0, 2)], 0), (68, .getfield 140, 3, [(0, 2), (0, 7), (0, 0)], 0), (71, .ireturn, 1, [], 0), (72, .aload_n 0, 1, [], 0), (73, .getfield 32, 3, [(0, 4), (0, 5), (0, 2)], 0), (76, .getfield 143, 3, [(0, 2), (0, 8), (0, 0)], 0), (79, .ireturn, 1, [], 0), (80, .aload_n 0, 1, [], 0), (81, .getfield 32, 3, [(0, 4), (0, 5), (0, 2)], 0), (84, .getfield 146, 3, [(0, 2), (0, 9), (0, 0)], 0), (87, .ireturn, 1, [], 0), (88, .aload_n 0, 1, [], 0), (89, .getfield 32, 3, [(0, 4), (0, 5), (0, 2)], 0), (92, .getfield 149, 3, [(0, 2), (0, 10), (0, 0)], 0), (95, .ireturn, 1, [], 0)]
def mX5_fewest : xM := (yX5_fewest, cX5_fewest, 4, (some .int), tX5_fewest, KX5, false)
abbrev nX5_fewest : Nat := 78
def tX5_cheapest : xT := [(0, .iload_n 1, 1, [], 0), (1, .iconst 0, 1, [(0, 0)], 0), (2, .ldc 122, 2, [(65535, 0)], 0), (4, .invokestatic 50, 3, [(0, 61)], 0), (7, .istore_n 2, 1, [], 0), (8, .iload_n 2, 1, [], 0), (9, .ifCond .eq 9, 3, [(0, 18)], 0), (12, .aload_n 0, 1, [], 0), (13, .iload_n 2, 1, [], 0), (14, .invokevirtual 58, 3, [(0, 62)], 0), (17, .ireturn, 1, [], 0), (18, .aload_n 0, 1, [], 0), (19, .getfield 32, 3, [(0, 4), (0, 5), (0, 2)], 0), (22, .aload_n 0, 1, [], 0), (23, .getfield 10, 3, [(0, 4), (0, 0), (0, 2)], 0), (26, .iload_n 1, 1, [], 0), (27, .invokevirtual 152, 3, [(0, 49)], 0), (30, .istore_n 3, 1, [], 0), (31, .iload_n 3, 1, [], 0), (32, .ifCond .ge 8, 3, [(0, 40)], 0), (35, .bipush (-9), 2, [((-9), 0)], 0), (37, .goto 4, 3, [(0, 41)], 0), (40, .iload_n 3, 1, [], 0), (41, .ireturn, 1, [], 0)]
def mX5_cheapest : xM := (yX5_cheapest, cX5_cheapest, 4, (some .int), tX5_cheapest, KX5, false)
abbrev nX5_cheapest : Nat := 79
def tX5_near : xT := [(0, .iload_n 1, 1, [], 0), (1, .iconst 0, 1, [(0, 0)], 0), (2, .ldc 122, 2, [(65535, 0)], 0), (4, .invokestatic 50, 3, [(0, 61)], 0), (7, .istore_n 2, 1, [], 0), (8, .iload_n 2, 1, [], 0), (9, .ifCond .eq 11, 3, [(0, 20)], 0), (12, .aload_n 0, 1, [], 0), (13, .iload_n 2, 1, [], 0), (14, .invokevirtual 58, 3, [(0, 62)], 0), (17, .goto 15, 3, [(0, 32)], 0), (20, .aload_n 0, 1, [], 0), (21, .getfield 32, 3, [(0, 4), (0, 5), (0, 2)], 0), (24, .aload_n 0, 1, [], 0), (25, .getfield 10, 3, [(0, 4), (0, 0), (0, 2)], 0), (28, .iload_n 1, 1, [], 0), (29, .invokevirtual 156, 3, [(0, 51)], 0), (32, .ireturn, 1, [], 0)]
def mX5_near : xM := (yX5_near, cX5_near, 3, (some .int), tX5_near, KX5, false)
abbrev nX5_near : Nat := 80
def tX5_can : xT := [(0, .iload_n 1, 1, [], 0), (1, .iconst (-1), 1, [((-1), 0)], 0), (2, .if_icmp .eq 20, 3, [(0, 22)], 0), (5, .aload_n 0, 1, [], 0), (6, .getfield 10, 3, [(0, 4), (0, 0), (0, 2)], 0), (9, .iload_n 1, 1, [], 0), (10, .invokevirtual 159, 3, [(0, 10)], 0), (13, .ifCond .ne 9, 3, [(0, 22)], 0), (16, .aload_n 0, 1, [], 0), (17, .iconst (-1), 1, [((-1), 0)], 0), (18, .invokevirtual 58, 3, [(0, 62)], 0), (21, .ireturn, 1, [], 0), (22, .aload_n 0, 1, [], 0), (23, .getfield 32, 3, [(0, 4), (0, 5), (0, 2)], 0), (26, .aload_n 0, 1, [], 0), (27, .getfield 10, 3, [(0, 4), (0, 0), (0, 2)], 0), (30, .iload_n 1, 1, [], 0), (31, .invokevirtual 162, 3, [(0, 53)], 0), (34, .ireturn, 1, [], 0)]
def mX5_can : xM := (yX5_can, cX5_can, 2, (some .int), tX5_can, KX5, false)
abbrev nX5_can : Nat := 81
def tX5_worth : xT := [(0, .aload_n 0, 1, [], 0), (1, .iload_n 1, 1, [], 0), (2, .invokevirtual 80, 3, [(0, 65)], 0), (5, .istore_n 2, 1, [], 0), (6, .iload_n 2, 1, [], 0), (7, .ifCond .eq 9, 3, [(0, 16)], 0), (10, .aload_n 0, 1, [], 0), (11, .iload_n 2, 1, [], 0), (12, .invokevirtual 58, 3, [(0, 62)], 0), (15, .ireturn, 1, [], 0), (16, .aload_n 0, 1, [], 0), (17, .getfield 32, 3, [(0, 4), (0, 5), (0, 2)], 0), (20, .aload_n 0, 1, [], 0), (21, .getfield 10, 3, [(0, 4), (0, 0), (0, 2)], 0), (24, .iconst (-1), 1, [((-1), 0)], 0), (25, .invokevirtual 162, 3, [(0, 53)], 0), (28, .invokestatic 123, 3, [(0, 13)], 0), (31, .istore_n 3, 1, [], 0), (32, .iload_n 3, 1, [], 0), (33, .aload_n 0, 1, [], 0), (34, .getfield 32, 3, [(0, 4), (0, 5), (0, 2)], 0), (37, .aload_n 0, 1, [], 0), (38, .getfield 10, 3, [(0, 4), (0, 0), (0, 2)], 0), (41, .iload_n 1, 1, [], 0), (42, .invokevirtual 162, 3, [(0, 53)], 0), (45, .invokestatic 123, 3, [(0, 13)], 0), (48, .isub, 1, [], 0), (49, .ireturn, 1, [], 0)]
def mX5_worth : xM := (yX5_worth, cX5_worth, 4, (some .int), tX5_worth, KX5, false)
abbrev nX5_worth : Nat := 82
def tX5_sure : xT := [(0, .aload_n 0, 1, [], 0), (1, .iload_n 1, 1, [], 0), (2, .invokevirtual 107, 3, [(0, 72)], 0), (5, .iload_n 2, 1, [], 0), (6, .iload_n 3, 1, [], 0), (7, .iconst 2, 1, [(2, 0)], 0), (8, .invokestatic 119, 3, [(0, 75)], 0), (11, .invokestatic 87, 3, [(0, 67)], 0), (14, .istore 4, 2, [], 0), (16, .iload 4, 2, [], 0), (18, .ifCond .eq 10, 3, [(0, 28)], 0), (21, .aload_n 0, 1, [], 0), (22, .iload 4, 2, [], 0), (24, .invokevirtual 58, 3, [(0, 62)], 0), (27, .ireturn, 1, [], 0), (28, .aload_n 0, 1, [], 0), (29, .getfield 10, 3, [(0, 4), (0, 0), (0, 2)], 0), (32, .iload_n 1, 1, [], 0), (33, .iconst 0, 1, [(0, 0)], 0), (34, .invokevirtual 110, 3, [(0, 21)], 0), (37, .istore 5, 2, [], 0), (39, .iload 5, 2, [], 0), (41, .iload_n 2, 1, [], 0), (42, .iconst (-1), 1, [((-1), 0)], 0), (43, .ixor, 1, [], 0), (44, .iand, 1, [], 0), (45, .ifCond .eq 6, 3, [(0, 51)], 0), (48, .bipush (-9), 2, [((-9), 0)], 0), (50, .ireturn, 1, [], 0), (51, .iload_n 3, 1, [], 0), (52, .lookupswitch 42 #[(0, 28), (1, 35)], 28, [(0, 94), (0, 80), (1, 87)], 0), (80, .iload_n 2, 1, [], 0), (81, .iload 5, 2, [], 0), (83, .iconst (-1), 1, [((-1), 0)], 0), (84, .ixor, 1, [], 0), (85, .iand, 1, [], 0), (86, .ireturn, 1, [], 0), (87, .ldc 122, 2, [(65535, 0)], 0), (89, .iload_n 2, 1, [], 0), (90, .iconst (-1), 1, [((-1), 0)], 0), (91, .ixor, 1, [], 0), (92, .iand, 1, [], 0), (93, .ireturn, 1, [], 0), (94, .iconst 1, 1, [(1, 0)], 0), (95, .iload 5, 2, [], 0), (97, .invokestatic 123, 3, [(0, 13)], 0), (100, .ishl, 1, [], 0), (101, .ireturn, 1, [], 0)]
def mX5_sure : xM := (yX5_sure, cX5_sure, 6, (some .int), tX5_sure, KX5, false)
abbrev nX5_sure : Nat := 83
def tX5_who : xT := [(0, .aload_n 0, 1, [], 0), (1, .iload_n 1, 1, [], 0), (2, .invokevirtual 107, 3, [(0, 72)], 0), (5, .iload_n 2, 1, [], 0), (6, .iload_n 3, 1, [], 0), (7, .iconst 1, 1, [(1, 0)], 0), (8, .invokestatic 119, 3, [(0, 75)], 0), (11, .invokestatic 87, 3, [(0, 67)], 0), (14, .istore 4, 2, [], 0), (16, .iload 4, 2, [], 0), (18, .ifCond .eq 10, 3, [(0, 28)], 0), (21, .aload_n 0, 1, [], 0), (22, .iload 4, 2, [], 0), (24, .invokevirtual 58, 3, [(0, 62)], 0), (27, .ireturn, 1, [], 0), (28, .aload_n 0, 1, [], 0), (29, .getfield 10, 3, [(0, 4), (0, 0), (0, 2)], 0), (32, .iload_n 1, 1, [], 0), (33, .iconst 0, 1, [(0, 0)], 0), (34, .invokevirtual 110, 3, [(0, 21)], 0), (37, .iload_n 2, 1, [], 0), (38, .if_icmp .ne 5, 3, [(0, 43)], 0), (41, .iconst 0, 1, [(0, 0)], 0), (42, .ireturn, 1, [], 0), (43, .iconst 0, 1, [(0, 0)], 0), (44, .istore 5, 2, [], 0), (46, .iconst 0, 1, [(0, 0)], 0), (47, .istore 6, 2, [], 0), (49, .iconst 0, 1, [(0, 0)], 0), (50, .istore 7, 2, [], 0), (52, .iload 7, 2, [], 0), (54, .bipush 8, 2, [(8, 0)], 0), (56, .if_icmp .ge 56, 3, [(0, 112)], 0), (59, .iload_n 1, 1, [], 0), (60, .iload 7, 2, [], 0), (62, .ishr, 1, [], 0), (63, .iconst 1, 1, [(1, 0)], 0), (64, .iand, 1, [], 0), (65, .ifCond .eq 17, 3, [(0, 82)], 0), (68, .aload_n 0, 1, [], 0), (69, .getfield 10, 3, [(0, 4), (0, 0), (0, 2)], 0), (72, .iload_n 1, 1, [], 0), (73, .iload 7, 2, [], 0), (75, .iload_n 2, 1, [], 0), (76, .invokevirtual 165, 3, [(0, 25)], 0), (79, .goto 4, 3, [(0, 83)], 0), (82, .iconst 0, 1, [(0, 0)], 0), (83, .istore 8, 2, [], 0), (85, .iload 8, 2, [], 0), (87, .ifCond .le 12, 3, [(0, 99)], 0), (90, .iload 5, 2, [], 0), (92, .iconst 1, 1, [(1, 0)], 0), (93, .iload 7, 2, [], 0), (95, .ishl, 1, [], 0), (96, .ior, 1, [], 0), (97, .istore 5, 2, [], 0), (99, .iload 6, 2, [], 0), (101, .iload 8, 2, [], 0), (103, .iadd, 1, [], 0), (104, .istore 6, 2, [], 0), (106, .iinc 7 1, 3, [(1, 0)], 0), (109, .goto (-57), 3, [(0, 52)], 0), (112, .iload_n 3, 1, [], 0), (113, .ifCond .ne 8, 3, [(0, 121)], 0), (116, .iload 5, 2, [], 0), (118, .goto 5, 3, [(0, 123)], 0), (121, .iload 6, 2, [], 0), (123, .ireturn, 1, [], 0)]
def mX5_who : xM := (yX5_who, cX5_who, 9, (some .int), tX5_who, KX5, false)
abbrev nX5_who : Nat := 84
def tX5_power : xT := [(0, .lconst 1, 1, [], 1), (1, .lstore_n 2, 1, [], 0), (2, .iconst 0, 1, [(0, 0)], 0), (3, .istore 4, 2, [], 0), (5, .iload 4, 2, [], 0), (7, .iload_n 1, 1, [], 0), (8, .if_icmp .ge 14, 3, [(0, 22)], 0), (11, .lload_n 2, 1, [], 0), (12, .iload_n 0, 1, [], 0), (13, .i2l, 1, [], 0), (14, .lmul, 1, [], 0), (15, .lstore_n 2, 1, [], 0), (16, .iinc 4 1, 3, [(1, 0)], 0), (19, .goto (-14), 3, [(0, 5)], 0), (22, .lload_n 2, 1, [], 0), (23, .lreturn, 1, [], 0)]
def mX5_power : xM := (yX5_power, cX5_power, 5, (some .long), tX5_power, KX5, true)
abbrev nX5_power : Nat := 85
def tX5_dust : xT := [(0, .aload_n 0, 1, [], 0), (1, .iload_n 1, 1, [], 0), (2, .invokevirtual 107, 3, [(0, 72)], 0), (5, .iload_n 3, 1, [], 0), (6, .iconst 1, 1, [(1, 0)], 0), (7, .invokestatic 83, 3, [(0, 66)], 0), (10, .invokestatic 87, 3, [(0, 67)], 0), (13, .istore 4, 2, [], 0), (15, .iload 4, 2, [], 0), (17, .iload_n 2, 1, [], 0), (18, .iconst 0, 1, [(0, 0)], 0), (19, .bipush 9, 2, [(9, 0)], 0), (21, .invokestatic 50, 3, [(0, 61)], 0), (24, .invokestatic 87, 3, [(0, 67)], 0), (27, .istore 4, 2, [], 0), (29, .iload 4, 2, [], 0), (31, .ifCond .eq 15, 3, [(0, 46)], 0), (34, .ldc2_w 168, 3, [], 4000000000000000000), (37, .aload_n 0, 1, [], 0), (38, .iload 4, 2, [], 0), (40, .invokevirtual 58, 3, [(0, 62)], 0), (43, .i2l, 1, [], 0), (44, .lsub, 1, [], 0), (45, .lreturn, 1, [], 0), (46, .bipush 16, 2, [(16, 0)], 0), (48, .aload_n 0, 1, [], 0), (49, .getfield 10, 3, [(0, 4), (0, 0), (0, 2)], 0), (52, .iload_n 1, 1, [], 0), (53, .iconst 0, 1, [(0, 0)], 0), (54, .invokevirtual 110, 3, [(0, 21)], 0), (57, .invokestatic 123, 3, [(0, 13)], 0), (60, .isub, 1, [], 0), (61, .istore 5, 2, [], 0), (63, .bipush 10, 2, [(10, 0)], 0), (65, .iload_n 2, 1, [], 0), (66, .isub, 1, [], 0), (67, .istore 6, 2, [], 0), (69, .bipush 10, 2, [(10, 0)], 0), (71, .istore 7, 2, [], 0), (73, .iconst 2, 1, [(2, 0)], 0), (74, .istore 8, 2, [], 0), (76, .iload 8, 2, [], 0), (78, .iconst 5, 1, [(5, 0)], 0), (79, .if_icmp .gt 42, 3, [(0, 121)], 0), (82, .iload 6, 2, [], 0), (84, .iload 8, 2, [], 0), (86, .irem, 1, [], 0), (87, .ifCond .ne 28, 3, [(0, 115)], 0), (90, .iload 7, 2, [], 0), (92, .iload 8, 2, [], 0), (94, .irem, 1, [], 0), (95, .ifCond .eq 6, 3, [(0, 101)], 0), (98, .goto 17, 3, [(0, 115)], 0), (101, .iload 6, 2, [], 0), (103, .iload 8, 2, [], 0), (105, .idiv, 1, [], 0), (106, .istore 6, 2, [], 0), (108, .iload 7, 2, [], 0), (110, .iload 8, 2, [], 0), (112, .idiv, 1, [], 0), (113, .istore 7, 2, [], 0), (115, .iinc 8 1, 3, [(1, 0)], 0), (118, .goto (-42), 3, [(0, 76)], 0), (121, .iload_n 3, 1, [], 0), (122, .ifCond .ne 8, 3, [(0, 130)], 0), (125, .iload 6, 2, [], 0), (127, .goto 5, 3, [(0, 132)], 0), (130, .iload 7, 2, [], 0), (132, .iload 5, 2, [], 0), (134, .invokestatic 170, 3, [(0, 85)], 0), (137, .lreturn, 1, [], 0)]
def mX5_dust : xM := (yX5_dust, cX5_dust, 9, (some .long), tX5_dust, KX5, false)
abbrev nX5_dust : Nat := 86
def tX5_round : xT := [(0, .aload_n 0, 1, [], 0), (1, .getfield 39, 3, [(0, 4), (0, 6), (0, 2)], 0), (4, .aload_n 0, 1, [], 0), (5, .getfield 10, 3, [(0, 4), (0, 0), (0, 2)], 0), (8, .invokevirtual 174, 3, [(0, 60)], 0), (11, .istore_n 1, 1, [], 0), (12, .iload_n 1, 1, [], 0), (13, .ifCond .ge 8, 3, [(0, 21)], 0), (16, .bipush (-9), 2, [((-9), 0)], 0), (18, .goto 4, 3, [(0, 22)], 0), (21, .iload_n 1, 1, [], 0), (22, .ireturn, 1, [], 0)]
def mX5_round : xM := (yX5_round, cX5_round, 2, (some .int), tX5_round, KX5, false)
abbrev nX5_round : Nat := 87
def tX5_row : xT := [(0, .iload_n 1, 1, [], 0), (1, .iconst 0, 1, [(0, 0)], 0), (2, .sipush 255, 3, [(255, 0)], 0), (5, .invokestatic 50, 3, [(0, 61)], 0), (8, .istore_n 2, 1, [], 0), (9, .iload_n 2, 1, [], 0), (10, .ifCond .ne 15, 3, [(0, 25)], 0), (13, .aload_n 0, 1, [], 0), (14, .getfield 177, 3, [(0, 4), (0, 8), (0, 0)], 0), (17, .bipush 12, 2, [(12, 0)], 0), (19, .if_icmp .lt 6, 3, [(0, 25)], 0), (22, .bipush (-6), 2, [((-6), 0)], 0), (24, .istore_n 2, 1, [], 0), (25, .iload_n 2, 1, [], 0), (26, .ifCond .eq 9, 3, [(0, 35)], 0), (29, .aload_n 0, 1, [], 0), (30, .iload_n 2, 1, [], 0), (31, .invokevirtual 58, 3, [(0, 62)], 0), (34, .ireturn, 1, [], 0), (35, .aload_n 0, 1, [], 0), (36, .getfield 43, 3, [(0, 4), (0, 7), (0, 2)], 0), (39, .aload_n 0, 1, [], 0), (40, .getfield 177, 3, [(0, 4), (0, 8), (0, 0)], 0), (43, .iload_n 1, 1, [], 0), (44, .iastore, 1, [], 0), (45, .aload_n 0, 1, [], 0), (46, .dup, 1, [], 0), (47, .getfield 177, 3, [(0, 4), (0, 8), (0, 0)], 0), (50, .iconst 1, 1, [(1, 0)], 0), (51, .iadd, 1, [], 0), (52, .putfield 177, 3, [(0, 4), (0, 8), (0, 0)], 0), (55, .aload_n 0, 1, [], 0), (56, .getfield 177, 3, [(0, 4), (0, 8), (0, 0)], 0), (59, .ireturn, 1, [], 0)]
def mX5_row : xM := (yX5_row, cX5_row, 3, (some .int), tX5_row, KX5, false)
abbrev nX5_row : Nat := 88
def tX5_judge : xT := [(0, .aload_n 0, 1, [], 0), (1, .getfield 16, 3, [(0, 4), (0, 1), (0, 2)], 0), (4, .aload_n 0, 1, [], 0), (5, .getfield 10, 3, [(0, 4), (0, 0), (0, 2)], 0), (8, .invokevirtual 69, 3, [(0, 6)], 0), (11, .bipush (-9), 2, [((-9), 0)], 0), (13, .istore_n 1, 1, [], 0), (14, .iconst 0, 1, [(0, 0)], 0), (15, .istore_n 2, 1, [], 0), (16, .iload_n 2, 1, [], 0), (17, .aload_n 0, 1, [], 0), (18, .getfield 177, 3, [(0, 4), (0, 8), (0, 0)], 0), (21, .if_icmp .ge 56, 3, [(0, 77)], 0), (24, .iload_n 1, 1, [], 0), (25, .bipush (-9), 2, [((-9), 0)], 0), (27, .if_icmp .ne 50, 3, [(0, 77)], 0), (30, .aload_n 0, 1, [], 0), (31, .getfield 16, 3, [(0, 4), (0, 1), (0, 2)], 0), (34, .aload_n 0, 1, [], 0), (35, .getfield 43, 3, [(0, 4), (0, 7), (0, 2)], 0), (38, .iload_n 2, 1, [], 0), (39, .iaload, 1, [], 0), (40, .invokevirtual 113, 3, [(0, 14)], 0), (43, .ifCond .eq 26, 3, [(0, 69)], 0), (46, .aload_n 0, 1, [], 0), (47, .getfield 16, 3, [(0, 4), (0, 1), (0, 2)], 0), (50, .aload_n 0, 1, [], 0), (51, .getfield 16, 3, [(0, 4), (0, 1), (0, 2)], 0), (54, .aload_n 0, 1, [], 0), (55, .getfield 43, 3, [(0, 4), (0, 7), (0, 2)], 0), (58, .iload_n 2, 1, [], 0), (59, .iaload, 1, [], 0), (60, .invokevirtual 116, 3, [(0, 23)], 0), (63, .invokevirtual 180, 3, [(0, 15)], 0), (66, .ifCond .ne 5, 3, [(0, 71)], 0), (69, .iload_n 2, 1, [], 0), (70, .istore_n 1, 1, [], 0), (71, .iinc 2 1, 3, [(1, 0)], 0), (74, .goto (-58), 3, [(0, 16)], 0), (77, .aload_n 0, 1, [], 0), (78, .iconst 0, 1, [(0, 0)], 0), (79, .putfield 177, 3, [(0, 4), (0, 8), (0, 0)], 0), (82, .iload_n 1, 1, [], 0), (83, .ireturn, 1, [], 0)]
def mX5_judge : xM := (yX5_judge, cX5_judge, 3, (some .int), tX5_judge, KX5, false)
abbrev nX5_judge : Nat := 89
def tX5_nextSeed : xT := [(0, .iload_n 0, 1, [], 0), (1, .ldc 210, 2, [(1103515245, 0)], 0), (3, .imul, 1, [], 0), (4, .sipush 12345, 3, [(12345, 0)], 0), (7, .iadd, 1, [], 0), (8, .ireturn, 1, [], 0)]
def mX5_nextSeed : xM := (yX5_nextSeed, cX5_nextSeed, 1, (some .int), tX5_nextSeed, KX5, true)
abbrev nX5_nextSeed : Nat := 90
def tX5_drawBelow : xT := [(0, .iload_n 1, 1, [], 0), (1, .ifCond .le 15, 3, [(0, 16)], 0), (4, .iload_n 0, 1, [], 0), (5, .ldc 211, 2, [(2147483647, 0)], 0), (7, .iand, 1, [], 0), (8, .ldc 212, 2, [(65536, 0)], 0), (10, .idiv, 1, [], 0), (11, .iload_n 1, 1, [], 0), (12, .irem, 1, [], 0), (13, .goto 4, 3, [(0, 17)], 0), (16, .iconst 0, 1, [(0, 0)], 0), (17, .ireturn, 1, [], 0)]
def mX5_drawBelow : xM := (yX5_drawBelow, cX5_drawBelow, 2, (some .int), tX5_drawBelow, KX5, true)
abbrev nX5_drawBelow : Nat := 91
def tX5_seeds : xT := [(0, .iload_n 1, 1, [], 0), (1, .iconst 1, 1, [(1, 0)], 0), (2, .bipush 40, 2, [(40, 0)], 0), (4, .invokestatic 50, 3, [(0, 61)], 0), (7, .istore_n 3, 1, [], 0), (8, .iload_n 3, 1, [], 0), (9, .ifCond .ne 16, 3, [(0, 25)], 0), (12, .aload_n 0, 1, [], 0), (13, .getfield 10, 3, [(0, 4), (0, 0), (0, 2)], 0), (16, .getfield 183, 3, [(0, 0), (0, 6), (0, 0)], 0), (19, .ifCond .ne 6, 3, [(0, 25)], 0), (22, .bipush (-3), 2, [((-3), 0)], 0), (24, .istore_n 3, 1, [], 0), (25, .iload_n 3, 1, [], 0), (26, .ifCond .eq 9, 3, [(0, 35)], 0), (29, .aload_n 0, 1, [], 0), (30, .iload_n 3, 1, [], 0), (31, .invokevirtual 58, 3, [(0, 62)], 0), (34, .ireturn, 1, [], 0), (35, .aload_n 0, 1, [], 0), (36, .getfield 16, 3, [(0, 4), (0, 1), (0, 2)], 0), (39, .aload_n 0, 1, [], 0), (40, .getfield 10, 3, [(0, 4), (0, 0), (0, 2)], 0), (43, .invokevirtual 69, 3, [(0, 6)], 0), (46, .iconst 0, 1, [(0, 0)], 0), (47, .istore 4, 2, [], 0), (49, .iload_n 2, 1, [], 0), (50, .istore 5, 2, [], 0), (52, .iconst 0, 1, [(0, 0)], 0), (53, .istore 6, 2, [], 0), (55, .iload 6, 2, [], 0), (57, .iload_n 1, 1, [], 0), (58, .if_icmp .ge 75, 3, [(0, 133)], 0), (61, .iload 5, 2, [], 0), (63, .invokestatic 186, 3, [(0, 90)], 0), (66, .istore 5, 2, [], 0), (68, .iconst 1, 1, [(1, 0)], 0), (69, .iload 5, 2, [], 0), (71, .aload_n 0, 1, [], 0), (72, .getfield 16, 3, [(0, 4), (0, 1), (0, 2)], 0), (75, .getfield 183, 3, [(0, 0), (0, 6), (0, 0)], 0), (78, .invokestatic 189, 3, [(0, 91)], 0), (81, .ishl, 1, [], 0), (82, .istore 7, 2, [], 0), (84, .iload 5, 2, [], 0), (86, .invokestatic 186, 3, [(0, 90)], 0), (89, .istore 5, 2, [], 0), (91, .iload 7, 2, [], 0), (93, .iconst 1, 1, [(1, 0)], 0), (94, .iload 5, 2, [], 0), (96, .aload_n 0, 1, [], 0), (97, .getfield 16, 3, [(0, 4), (0, 1), (0, 2)], 0), (100, .getfield 183, 3, [(0, 0), (0, 6), (0, 0)], 0), (103, .invokestatic 189, 3, [(0, 91)], 0), (106, .ishl, 1, [], 0), (107, .ior, 1, [], 0), (108, .istore 7, 2, [], 0), (110, .iload 4, 2, [], 0), (112, .aload_n 0, 1, [], 0), (113, .getfield 16, 3, [(0, 4), (0, 1), (0, 2)], 0), (116, .iload 7, 2, [], 0), (118, .invokevirtual 116, 3, [(0, 23)], 0), (121, .invokestatic 123, 3, [(0, 13)], 0), (124, .iadd, 1, [], 0), (125, .istore 4, 2, [], 0), (127, .iinc 6 1, 3, [(1, 0)], 0), (130, .goto (-75), 3, [(0, 55)], 0), (133, .iload 4, 2, [], 0), (135, .ireturn, 1, [], 0)]
def mX5_seeds : xM := (yX5_seeds, cX5_seeds, 8, (some .int), tX5_seeds, KX5, false)
abbrev nX5_seeds : Nat := 92
def tX5_image : xT := [(0, .aload_n 0, 1, [], 0), (1, .getfield 19, 3, [(0, 4), (0, 2), (0, 2)], 0), (4, .aload_n 0, 1, [], 0), (5, .getfield 10, 3, [(0, 4), (0, 0), (0, 2)], 0), (8, .invokevirtual 69, 3, [(0, 6)], 0), (11, .aload_n 0, 1, [], 0), (12, .iconst 1, 1, [(1, 0)], 0), (13, .putfield 192, 3, [(0, 4), (0, 3), (0, 1)], 0), (16, .aload_n 0, 1, [], 0), (17, .getfield 10, 3, [(0, 4), (0, 0), (0, 2)], 0), (20, .getfield 183, 3, [(0, 0), (0, 6), (0, 0)], 0), (23, .ireturn, 1, [], 0)]
def mX5_image : xM := (yX5_image, cX5_image, 1, (some .int), tX5_image, KX5, false)
abbrev nX5_image : Nat := 93
def tX5_restore : xT := [(0, .aload_n 0, 1, [], 0), (1, .getfield 192, 3, [(0, 4), (0, 3), (0, 1)], 0), (4, .ifCond .ne 10, 3, [(0, 14)], 0), (7, .aload_n 0, 1, [], 0), (8, .bipush (-3), 2, [((-3), 0)], 0), (10, .invokevirtual 58, 3, [(0, 62)], 0), (13, .ireturn, 1, [], 0), (14, .aload_n 0, 1, [], 0), (15, .getfield 10, 3, [(0, 4), (0, 0), (0, 2)], 0), (18, .aload_n 0, 1, [], 0), (19, .getfield 19, 3, [(0, 4), (0, 2), (0, 2)], 0), (22, .invokevirtual 69, 3, [(0, 6)], 0), (25, .aload_n 0, 1, [], 0), (26, .getfield 10, 3, [(0, 4), (0, 0), (0, 2)], 0), (29, .getfield 183, 3, [(0, 0), (0, 6), (0, 0)], 0), (32, .ireturn, 1, [], 0)]
def mX5_restore : xM := (yX5_restore, cX5_restore, 1, (some .int), tX5_restore, KX5, false)
abbrev nX5_restore : Nat := 94
def tX5_count : xT := [(0, .iload_n 1, 1, [], 0), (1, .bipush 11, 2, [(11, 0)], 0), (3, .if_icmp .lt 19, 3, [(0, 22)], 0), (6, .iload_n 1, 1, [], 0), (7, .bipush 16, 2, [(16, 0)], 0), (9, .if_icmp .gt 13, 3, [(0, 22)], 0), (12, .aload_n 0, 1, [], 0), (13, .getfield 47, 3, [(0, 4), (0, 9), (0, 2)], 0), (16, .iload_n 1, 1, [], 0), (17, .bipush 10, 2, [(10, 0)], 0), (19, .isub, 1, [], 0), (20, .iaload, 1, [], 0), (21, .ireturn, 1, [], 0), (22, .iload_n 1, 1, [], 0), (23, .tableswitch 94 0 6 #[41, 49, 57, 65, 73, 81, 89], 41, [(0, 117), (0, 64), (1, 72), (2, 80), (3, 88), (4, 96), (5, 104), (6, 112)], 0), (64, .aload_n 0, 1, [], 0), (65, .getfield 10, 3, [(0, 4), (0, 0), (0, 2)], 0), (68, .getfield 183, 3, [(0, 0), (0, 6), (0, 0)], 0), (71, .ireturn, 1, [], 0), (72, .aload_n 0, 1, [], 0), (73, .getfield 10, 3, [(0, 4), (0, 0), (0, 2)], 0), (76, .getfield 196, 3, [(0, 0), (0, 7), (0, 0)], 0), (79, .ireturn, 1, [], 0), (80, .aload_n 0, 1, [], 0), (81, .getfield 10, 3, [(0, 4), (0, 0), (0, 2)], 0), (84, .getfield 100, 3, [(0, 0), (0, 8), (0, 0)], 0), (87, .ireturn, 1, [], 0), (88, .aload_n 0, 1, [], 0), (89, .getfield 10, 3, [(0, 4), (0, 0), (0, 2)], 0), (92, .invokevirtual 199, 3, [(0, 26)], 0), (95, .ireturn, 1, [], 0), (96, .aload_n 0, 1, [], 0), (97, .getfield 10, 3, [(0, 4), (0, 0), (0, 2)], 0), (100, .invokevirtual 202, 3, [(0, 27)], 0), (103, .ireturn, 1, [], 0), (104, .aload_n 0, 1, [], 0), (105, .getfield 25, 3, [(0, 4), (0, 4), (0, 2)], 0), (108, .getfield 205, 3, [(0, 1), (0, 1), (0, 0)], 0), (111, .ireturn, 1, [], 0), (112, .aload_n 0, 1, [], 0), (113, .getfield 177, 3, [(0, 4), (0, 8), (0, 0)], 0), (116, .ireturn, 1, [], 0), (117, .bipush (-9), 2, [((-9), 0)], 0), (119, .ireturn, 1, [], 0)]
def mX5_count : xM := (yX5_count, cX5_count, 2, (some .int), tX5_count, KX5, false)
abbrev nX5_count : Nat := 95
def tX6_no : xT := [(0, .aload_n 0, 1, [], 0), (1, .getfield 7, 3, [(0, 5), (0, 0), (0, 2)], 0), (4, .iload_n 1, 1, [], 0), (5, .ineg, 1, [], 0), (6, .dup2, 1, [], 0), (7, .iaload, 1, [], 0), (8, .iconst 1, 1, [(1, 0)], 0), (9, .iadd, 1, [], 0), (10, .iastore, 1, [], 0), (11, .iload_n 1, 1, [], 0), (12, .ireturn, 1, [], 0)]
def mX6_no : xM := (yX6_no, cX6_no, 2, (some .int), tX6_no, KX6, false)
abbrev nX6_no : Nat := 96
def tX6_lowest : xT := [(0, .aload_n 0, 1, [], 0), (1, .getfield 7, 3, [(0, 5), (0, 0), (0, 2)], 0), (4, .iload_n 1, 1, [], 0), (5, .ineg, 1, [], 0), (6, .dup2, 1, [], 0), (7, .iaload, 1, [], 0), (8, .iconst 1, 1, [(1, 0)], 0), (9, .iadd, 1, [], 0), (10, .iastore, 1, [], 0), (11, .ldc2_w 62, 3, [], 4000000000000000000), (14, .iload_n 1, 1, [], 0), (15, .i2l, 1, [], 0), (16, .lsub, 1, [], 0), (17, .lreturn, 1, [], 0)]
def mX6_lowest : xM := (yX6_lowest, cX6_lowest, 2, (some .long), tX6_lowest, KX6, false)
abbrev nX6_lowest : Nat := 97
def tX6_isIn : xT := [(0, .iload_n 0, 1, [], 0), (1, .iload_n 1, 1, [], 0), (2, .if_icmp .lt 12, 3, [(0, 14)], 0), (5, .iload_n 0, 1, [], 0), (6, .iload_n 2, 1, [], 0), (7, .if_icmp .gt 7, 3, [(0, 14)], 0), (10, .iconst 1, 1, [(1, 0)], 0), (11, .goto 4, 3, [(0, 15)], 0), (14, .iconst 0, 1, [(0, 0)], 0), (15, .ireturn, 1, [], 0)]
def mX6_isIn : xM := (yX6_isIn, cX6_isIn, 3, (some .boolean), tX6_isIn, KX6, true)
abbrev nX6_isIn : Nat := 98
def tX6_bound : xT := [(0, .iload_n 0, 1, [], 0), (1, .iload_n 1, 1, [], 0), (2, .if_icmp .ge 8, 3, [(0, 10)], 0), (5, .bipush (-4), 2, [((-4), 0)], 0), (7, .goto 14, 3, [(0, 21)], 0), (10, .iload_n 0, 1, [], 0), (11, .iload_n 2, 1, [], 0), (12, .if_icmp .le 8, 3, [(0, 20)], 0), (15, .bipush (-6), 2, [((-6), 0)], 0), (17, .goto 4, 3, [(0, 21)], 0), (20, .iconst 0, 1, [(0, 0)], 0), (21, .ireturn, 1, [], 0)]
def mX6_bound : xM := (yX6_bound, cX6_bound, 3, (some .int), tX6_bound, KX6, true)
abbrev nX6_bound : Nat := 99
def tX6_isSlide : xT := [(0, .iload_n 1, 1, [], 0), (1, .ifCond .lt 15, 3, [(0, 16)], 0), (4, .iload_n 1, 1, [], 0), (5, .aload_n 0, 1, [], 0), (6, .getfield 64, 3, [(0, 5), (0, 7), (0, 0)], 0), (9, .if_icmp .ge 7, 3, [(0, 16)], 0), (12, .iconst 1, 1, [(1, 0)], 0), (13, .goto 4, 3, [(0, 17)], 0), (16, .iconst 0, 1, [(0, 0)], 0), (17, .ireturn, 1, [], 0)]
def mX6_isSlide : xM := (yX6_isSlide, cX6_isSlide, 2, (some .boolean), tX6_isSlide, KX6, false)
abbrev nX6_isSlide : Nat := 100
def tX6_areSlides : xT := [(0, .iload_n 1, 1, [], 0), (1, .ifCond .lt 16, 3, [(0, 17)], 0), (4, .iload_n 1, 1, [], 0), (5, .aload_n 0, 1, [], 0), (6, .getfield 64, 3, [(0, 5), (0, 7), (0, 0)], 0), (9, .ishr, 1, [], 0), (10, .ifCond .ne 7, 3, [(0, 17)], 0), (13, .iconst 1, 1, [(1, 0)], 0), (14, .goto 4, 3, [(0, 18)], 0), (17, .iconst 0, 1, [(0, 0)], 0), (18, .ireturn, 1, [], 0)]
def mX6_areSlides : xM := (yX6_areSlides, cX6_areSlides, 2, (some .boolean), tX6_areSlides, KX6, false)
abbrev nX6_areSlides : Nat := 101
def tX6_feed : xT := [(0, .iload_n 1, 1, [], 0), (1, .iconst 0, 1, [(0, 0)], 0), (2, .sipush 255, 3, [(255, 0)], 0), (5, .invokestatic 67, 3, [(0, 99)], 0), (8, .istore_n 2, 1, [], 0), (9, .iload_n 2, 1, [], 0), (10, .ifCond .ne 15, 3, [(0, 25)], 0), (13, .aload_n 0, 1, [], 0), (14, .getfield 71, 3, [(0, 5), (0, 14), (0, 0)], 0), (17, .bipush 80, 2, [(80, 0)], 0), (19, .if_icmp .ne 6, 3, [(0, 25)], 0), (22, .bipush (-6), 2, [((-6), 0)], 0), (24, .istore_n 2, 1, [], 0), (25, .iload_n 2, 1, [], 0), (26, .ifCond .eq 9, 3, [(0, 35)], 0), (29, .aload_n 0, 1, [], 0), (30, .iload_n 2, 1, [], 0), (31, .invokevirtual 74, 3, [(0, 96)], 0), (34, .ireturn, 1, [], 0), (35, .aload_n 0, 1, [], 0), (36, .getfield 35, 3, [(0, 5), (0, 10), (0, 2)], 0), (39, .aload_n 0, 1, [], 0), (40, .getfield 71, 3, [(0, 5), (0, 14), (0, 0)], 0), (43, .iload_n 1, 1, [], 0), (44, .iastore, 1, [], 0), (45, .aload_n 0, 1, [], 0), (46, .dup, 1, [], 0), (47, .getfield 71, 3, [(0, 5), (0, 14), (0, 0)], 0), (50, .iconst 1, 1, [(1, 0)], 0), (51, .iadd, 1, [], 0), (52, .putfield 71, 3, [(0, 5), (0, 14), (0, 0)], 0), (55, .aload_n 0, 1, [], 0), (56, .getfield 71, 3, [(0, 5), (0, 14), (0, 0)], 0), (59, .ireturn, 1, [], 0)]
def mX6_feed : xM := (yX6_feed, cX6_feed, 3, (some .int), tX6_feed, KX6, false)
abbrev nX6_feed : Nat := 102
def tX6_next : xT := [(0, .aload_n 0, 1, [], 0), (1, .getfield 78, 3, [(0, 5), (0, 15), (0, 0)], 0), (4, .aload_n 0, 1, [], 0), (5, .getfield 71, 3, [(0, 5), (0, 14), (0, 0)], 0), (8, .if_icmp .ge 15, 3, [(0, 23)], 0), (11, .aload_n 0, 1, [], 0), (12, .getfield 35, 3, [(0, 5), (0, 10), (0, 2)], 0), (15, .aload_n 0, 1, [], 0), (16, .getfield 78, 3, [(0, 5), (0, 15), (0, 0)], 0), (19, .iaload, 1, [], 0), (20, .goto 4, 3, [(0, 24)], 0), (23, .iconst (-1), 1, [((-1), 0)], 0), (24, .ireturn, 1, [], 0)]
def mX6_next : xM := (yX6_next, cX6_next, 1, (some .int), tX6_next, KX6, false)
abbrev nX6_next : Nat := 103
def tX6_readsNumber : xT := [(0, .aload_n 0, 1, [], 0), (1, .invokevirtual 81, 3, [(0, 103)], 0), (4, .bipush 48, 2, [(48, 0)], 0), (6, .bipush 57, 2, [(57, 0)], 0), (8, .invokestatic 85, 3, [(0, 98)], 0), (11, .ifCond .ne 5, 3, [(0, 16)], 0), (14, .iconst 0, 1, [(0, 0)], 0), (15, .ireturn, 1, [], 0), (16, .iconst 0, 1, [(0, 0)], 0), (17, .istore_n 3, 1, [], 0), (18, .iconst 0, 1, [(0, 0)], 0), (19, .istore 4, 2, [], 0), (21, .iload 4, 2, [], 0), (23, .iload_n 2, 1, [], 0), (24, .if_icmp .ge 46, 3, [(0, 70)], 0), (27, .aload_n 0, 1, [], 0), (28, .invokevirtual 81, 3, [(0, 103)], 0), (31, .bipush 48, 2, [(48, 0)], 0), (33, .bipush 57, 2, [(57, 0)], 0), (35, .invokestatic 85, 3, [(0, 98)], 0), (38, .ifCond .eq 32, 3, [(0, 70)], 0), (41, .bipush 10, 2, [(10, 0)], 0), (43, .iload_n 3, 1, [], 0), (44, .imul, 1, [], 0), (45, .aload_n 0, 1, [], 0), (46, .invokevirtual 81, 3, [(0, 103)], 0), (49, .iadd, 1, [], 0), (50, .bipush 48, 2, [(48, 0)], 0), (52, .isub, 1, [], 0), (53, .istore_n 3, 1, [], 0), (54, .aload_n 0, 1, [], 0), (55, .dup, 1, [], 0), (56, .getfield 78, 3, [(0, 5), (0, 15), (0, 0)], 0), (59, .iconst 1, 1, [(1, 0)], 0), (60, .iadd, 1, [], 0), (61, .putfield 78, 3, [(0, 5), (0, 15), (0, 0)], 0), (64, .iinc 4 1, 3, [(1, 0)], 0), (67, .goto (-46), 3, [(0, 21)], 0), (70, .aload_n 0, 1, [], 0), (71, .getfield 44, 3, [(0, 5), (0, 13), (0, 2)], 0), (74, .iload_n 1, 1, [], 0), (75, .iload_n 3, 1, [], 0), (76, .iastore, 1, [], 0), (77, .iconst 1, 1, [(1, 0)], 0), (78, .ireturn, 1, [], 0)]
def mX6_readsNumber : xM := (yX6_readsNumber, cX6_readsNumber, 5, (some .boolean), tX6_readsNumber, KX6, false)
abbrev nX6_readsNumber : Nat := 104
def tX6_readsPicture : xT := [(0, .aload_n 0, 1, [], 0), (1, .getfield 44, 3, [(0, 5), (0, 13), (0, 2)], 0), (4, .iload_n 1, 1, [], 0), (5, .iconst 0, 1, [(0, 0)], 0), (6, .iastore, 1, [], 0), (7, .iconst 0, 1, [(0, 0)], 0), (8, .istore_n 2, 1, [], 0), (9, .iload_n 2, 1, [], 0), (10, .bipush 16, 2, [(16, 0)], 0), (12, .if_icmp .ge 64, 3, [(0, 76)], 0), (15, .aload_n 0, 1, [], 0), (16, .invokevirtual 81, 3, [(0, 103)], 0), (19, .bipush 46, 2, [(46, 0)], 0), (21, .if_icmp .eq 14, 3, [(0, 35)], 0), (24, .aload_n 0, 1, [], 0), (25, .invokevirtual 81, 3, [(0, 103)], 0), (28, .bipush 35, 2, [(35, 0)], 0), (30, .if_icmp .eq 5, 3, [(0, 35)], 0), (33, .iconst 0, 1, [(0, 0)], 0), (34, .ireturn, 1, [], 0), (35, .aload_n 0, 1, [], 0), (36, .getfield 44, 3, [(0, 5), (0, 13), (0, 2)], 0), (39, .iload_n 1, 1, [], 0), (40, .dup2, 1, [], 0), (41, .iaload, 1, [], 0), (42, .aload_n 0, 1, [], 0), (43, .invokevirtual 81, 3, [(0, 103)], 0), (46, .bipush 35, 2, [(35, 0)], 0), (48, .if_icmp .ne 9, 3, [(0, 57)], 0), (51, .iconst 1, 1, [(1, 0)], 0), (52, .iload_n 2, 1, [], 0), (53, .ishl, 1, [], 0), (54, .goto 4, 3, [(0, 58)], 0), (57, .iconst 0, 1, [(0, 0)], 0), (58, .ior, 1, [], 0), (59, .iastore, 1, [], 0), (60, .aload_n 0, 1, [], 0), (61, .dup, 1, [], 0), (62, .getfield 78, 3, [(0, 5), (0, 15), (0, 0)], 0), (65, .iconst 1, 1, [(1, 0)], 0), (66, .iadd, 1, [], 0), (67, .putfield 78, 3, [(0, 5), (0, 15), (0, 0)], 0), (70, .iinc 2 1, 3, [(1, 0)], 0), (73, .goto (-64), 3, [(0, 9)], 0), (76, .iconst 1, 1, [(1, 0)], 0), (77, .ireturn, 1, [], 0)]
def mX6_readsPicture : xM := (yX6_readsPicture, cX6_readsPicture, 3, (some .boolean), tX6_readsPicture, KX6, false)
abbrev nX6_readsPicture : Nat := 105
def tX6_readsSlide : xT := [(0, .aload_n 0, 1, [], 0), (1, .iload_n 1, 1, [], 0), (2, .iconst 1, 1, [(1, 0)], 0), (3, .invokevirtual 89, 3, [(0, 104)], 0), (6, .ifCond .eq 34, 3, [(0, 40)], 0), (9, .aload_n 0, 1, [], 0), (10, .iload_n 1, 1, [], 0), (11, .iconst 1, 1, [(1, 0)], 0), (12, .iadd, 1, [], 0), (13, .iconst 1, 1, [(1, 0)], 0), (14, .invokevirtual 89, 3, [(0, 104)], 0), (17, .ifCond .eq 23, 3, [(0, 40)], 0), (20, .aload_n 0, 1, [], 0), (21, .iload_n 1, 1, [], 0), (22, .iconst 2, 1, [(2, 0)], 0), (23, .iadd, 1, [], 0), (24, .iconst 2, 1, [(2, 0)], 0), (25, .invokevirtual 89, 3, [(0, 104)], 0), (28, .ifCond .eq 12, 3, [(0, 40)], 0), (31, .aload_n 0, 1, [], 0), (32, .invokevirtual 81, 3, [(0, 103)], 0), (35, .bipush 44, 2, [(44, 0)], 0), (37, .if_icmp .eq 5, 3, [(0, 42)], 0), (40, .iconst 0, 1, [(0, 0)], 0), (41, .ireturn, 1, [], 0), (42, .aload_n 0, 1, [], 0), (43, .dup, 1, [], 0), (44, .getfield 78, 3, [(0, 5), (0, 15), (0, 0)], 0), (47, .iconst 1, 1, [(1, 0)], 0), (48, .iadd, 1, [], 0), (49, .putfield 78, 3, [(0, 5), (0, 15), (0, 0)], 0), (52, .aload_n 0, 1, [], 0), (53, .iload_n 1, 1, [], 0), (54, .iconst 3, 1, [(3, 0)], 0), (55, .iadd, 1, [], 0), (56, .invokevirtual 93, 3, [(0, 105)], 0), (59, .ireturn, 1, [], 0)]
def mX6_readsSlide : xM := (yX6_readsSlide, cX6_readsSlide, 2, (some .boolean), tX6_readsSlide, KX6, false)
abbrev nX6_readsSlide : Nat := 106
def tX6_statement : xT := [(0, .aload_n 0, 1, [], 0), (1, .invokevirtual 81, 3, [(0, 103)], 0), (4, .istore_n 1, 1, [], 0), (5, .iload_n 1, 1, [], 0), (6, .bipush 115, 2, [(115, 0)], 0), (8, .if_icmp .eq 17, 3, [(0, 25)], 0), (11, .iload_n 1, 1, [], 0), (12, .bipush 119, 2, [(119, 0)], 0), (14, .if_icmp .eq 11, 3, [(0, 25)], 0), (17, .iload_n 1, 1, [], 0), (18, .bipush 104, 2, [(104, 0)], 0), (20, .if_icmp .eq 5, 3, [(0, 25)], 0), (23, .iconst 0, 1, [(0, 0)], 0), (24, .ireturn, 1, [], 0), (25, .aload_n 0, 1, [], 0), (26, .getfield 38, 3, [(0, 5), (0, 11), (0, 2)], 0), (29, .aload_n 0, 1, [], 0), (30, .getfield 97, 3, [(0, 5), (0, 16), (0, 0)], 0), (33, .iload_n 1, 1, [], 0), (34, .iastore, 1, [], 0), (35, .aload_n 0, 1, [], 0), (36, .getfield 41, 3, [(0, 5), (0, 12), (0, 2)], 0), (39, .aload_n 0, 1, [], 0), (40, .getfield 97, 3, [(0, 5), (0, 16), (0, 0)], 0), (43, .aload_n 0, 1, [], 0), (44, .getfield 78, 3, [(0, 5), (0, 15), (0, 0)], 0), (47, .iastore, 1, [], 0), (48, .aload_n 0, 1, [], 0), (49, .dup, 1, [], 0), (50, .getfield 78, 3, [(0, 5), (0, 15), (0, 0)], 0), (53, .iconst 1, 1, [(1, 0)], 0), (54, .iadd, 1, [], 0), (55, .putfield 78, 3, [(0, 5), (0, 15), (0, 0)], 0), (58, .iconst 4, 1, [(4, 0)], 0), (59, .aload_n 0, 1, [], 0), (60, .getfield 97, 3, [(0, 5), (0, 16), (0, 0)], 0), (63, .imul, 1, [], 0), (64, .istore_n 2, 1, [], 0), (65, .iload_n 1, 1, [], 0), (66, .bipush 115, 2, [(115, 0)], 0), (68, .if_icmp .ne 14, 3, [(0, 82)], 0), (71, .aload_n 0, 1, [], 0), (72, .iload_n 2, 1, [], 0), (73, .invokevirtual 100, 3, [(0, 106)], 0), (76, .ifCond .eq 41, 3, [(0, 117)], 0), (79, .goto 29, 3, [(0, 108)], 0), (82, .iload_n 1, 1, [], 0), (83, .bipush 119, 2, [(119, 0)], 0), (85, .if_icmp .ne 14, 3, [(0, 99)], 0), (88, .aload_n 0, 1, [], 0), (89, .iload_n 2, 1, [], 0), (90, .invokevirtual 93, 3, [(0, 105)], 0), (93, .ifCond .eq 24, 3, [(0, 117)], 0), (96, .goto 12, 3, [(0, 108)], 0), (99, .aload_n 0, 1, [], 0), (100, .iload_n 2, 1, [], 0), (101, .iconst 1, 1, [(1, 0)], 0), (102, .invokevirtual 89, 3, [(0, 104)], 0), (105, .ifCond .eq 12, 3, [(0, 117)], 0), (108, .aload_n 0, 1, [], 0), (109, .invokevirtual 81, 3, [(0, 103)], 0), (112, .bipush 59, 2, [(59, 0)], 0), (114, .if_icmp .eq 5, 3, [(0, 119)], 0), (117, .iconst 0, 1, [(0, 0)], 0), (118, .ireturn, 1, [], 0), (119, .aload_n 0, 1, [], 0), (120, .dup, 1, [], 0), (121, .getfield 78, 3, [(0, 5), (0, 15), (0, 0)], 0), (124, .iconst 1, 1, [(1, 0)], 0), (125, .iadd, 1, [], 0), (126, .putfield 78, 3, [(0, 5), (0, 15), (0, 0)], 0), (129, .iconst 1, 1, [(1, 0)], 0), (130, .ireturn, 1, [], 0)]
def mX6_statement : xM := (yX6_statement, cX6_statement, 3, (some .boolean), tX6_statement, KX6, false)
abbrev nX6_statement : Nat := 107
def tX6_comes : xT := [(0, .iconst 4, 1, [(4, 0)], 0), (1, .iload_n 1, 1, [], 0), (2, .imul, 1, [], 0), (3, .istore_n 2, 1, [], 0), (4, .aload_n 0, 1, [], 0), (5, .getfield 38, 3, [(0, 5), (0, 11), (0, 2)], 0), (8, .iload_n 1, 1, [], 0), (9, .iaload, 1, [], 0), (10, .bipush 104, 2, [(104, 0)], 0), (12, .if_icmp .ne 28, 3, [(0, 40)], 0), (15, .aload_n 0, 1, [], 0), (16, .aload_n 0, 1, [], 0), (17, .getfield 44, 3, [(0, 5), (0, 13), (0, 2)], 0), (20, .iload_n 2, 1, [], 0), (21, .iaload, 1, [], 0), (22, .putfield 31, 3, [(0, 5), (0, 9), (0, 0)], 0), (25, .aload_n 0, 1, [], 0), (26, .getfield 44, 3, [(0, 5), (0, 13), (0, 2)], 0), (29, .iload_n 2, 1, [], 0), (30, .iaload, 1, [], 0), (31, .ifCond .le 7, 3, [(0, 38)], 0), (34, .iconst 1, 1, [(1, 0)], 0), (35, .goto 4, 3, [(0, 39)], 0), (38, .iconst 0, 1, [(0, 0)], 0), (39, .ireturn, 1, [], 0), (40, .aload_n 0, 1, [], 0), (41, .getfield 38, 3, [(0, 5), (0, 11), (0, 2)], 0), (44, .iload_n 1, 1, [], 0), (45, .iaload, 1, [], 0), (46, .bipush 119, 2, [(119, 0)], 0), (48, .if_icmp .ne 41, 3, [(0, 89)], 0), (51, .aload_n 0, 1, [], 0), (52, .getfield 103, 3, [(0, 5), (0, 8), (0, 0)], 0), (55, .bipush 6, 2, [(6, 0)], 0), (57, .if_icmp .ne 5, 3, [(0, 62)], 0), (60, .iconst 0, 1, [(0, 0)], 0), (61, .ireturn, 1, [], 0), (62, .aload_n 0, 1, [], 0), (63, .getfield 28, 3, [(0, 5), (0, 6), (0, 2)], 0), (66, .aload_n 0, 1, [], 0), (67, .getfield 103, 3, [(0, 5), (0, 8), (0, 0)], 0), (70, .aload_n 0, 1, [], 0), (71, .getfield 44, 3, [(0, 5), (0, 13), (0, 2)], 0), (74, .iload_n 2, 1, [], 0), (75, .iaload, 1, [], 0), (76, .iastore, 1, [], 0), (77, .aload_n 0, 1, [], 0), (78, .dup, 1, [], 0), (79, .getfield 103, 3, [(0, 5), (0, 8), (0, 0)], 0), (82, .iconst 1, 1, [(1, 0)], 0), (83, .iadd, 1, [], 0), (84, .putfield 103, 3, [(0, 5), (0, 8), (0, 0)], 0), (87, .iconst 1, 1, [(1, 0)], 0), (88, .ireturn, 1, [], 0), (89, .aload_n 0, 1, [], 0), (90, .getfield 44, 3, [(0, 5), (0, 13), (0, 2)], 0), (93, .iload_n 2, 1, [], 0), (94, .iaload, 1, [], 0), (95, .iconst 5, 1, [(5, 0)], 0), (96, .if_icmp .gt 12, 3, [(0, 108)], 0), (99, .aload_n 0, 1, [], 0), (100, .getfield 64, 3, [(0, 5), (0, 7), (0, 0)], 0), (103, .bipush 8, 2, [(8, 0)], 0), (105, .if_icmp .ne 5, 3, [(0, 110)], 0), (108, .iconst 0, 1, [(0, 0)], 0), (109, .ireturn, 1, [], 0), (110, .aload_n 0, 1, [], 0), (111, .getfield 13, 3, [(0, 5), (0, 1), (0, 2)], 0), (114, .aload_n 0, 1, [], 0), (115, .getfield 64, 3, [(0, 5), (0, 7), (0, 0)], 0), (118, .aload_n 0, 1, [], 0), (119, .getfield 44, 3, [(0, 5), (0, 13), (0, 2)], 0), (122, .iload_n 2, 1, [], 0), (123, .iaload, 1, [], 0), (124, .iastore, 1, [], 0), (125, .aload_n 0, 1, [], 0), (126, .getfield 16, 3, [(0, 5), (0, 2), (0, 2)], 0), (129, .aload_n 0, 1, [], 0), (130, .getfield 64, 3, [(0, 5), (0, 7), (0, 0)], 0), (133, .aload_n 0, 1, [], 0), (134, .getfield 44, 3, [(0, 5), (0, 13), (0, 2)], 0), (137, .iload_n 2, 1, [], 0), (138, .iconst 1, 1, [(1, 0)], 0), (139, .iadd, 1, [], 0), (140, .iaload, 1, [], 0), (141, .iastore, 1, [], 0), (142, .aload_n 0, 1, [], 0), (143, .getfield 22, 3, [(0, 5), (0, 4), (0, 2)], 0), (146, .aload_n 0, 1, [], 0), (147, .getfield 64, 3, [(0, 5), (0, 7), (0, 0)], 0), (150, .aload_n 0, 1, [], 0), (151, .getfield 44, 3, [(0, 5), (0, 13), (0, 2)], 0), (154, .iload_n 2, 1, [], 0), (155, .iconst 2, 1, [(2, 0)], 0), (156, .iadd, 1, [], 0), (157, .iaload, 1, [], 0), (158, .iastore, 1, [], 0), (159, .aload_n 0, 1, [], 0), (160, .getfield 19, 3, [(0, 5), (0, 3), (0, 2)], 0), (163, .aload_n 0, 1, [], 0), (164, .getfield 64, 3, [(0, 5), (0, 7), (0, 0)], 0), (167, .aload_n 0, 1, [], 0), (168, .getfield 44, 3, [(0, 5), (0, 13), (0, 2)], 0), (171, .iload_n 2, 1, [], 0), (172, .iconst 3, 1, [(3, 0)], 0), (173, .iadd, 1, [], 0), (174, .iaload, 1, [], 0), (175, .iastore, 1, [], 0), (176, .aload_n 0, 1, [], 0), (177, .getfield 25, 3, [(0, 5), (0, 5), (0, 2)], 0), (180, .aload_n 0, 1, [], 0), (181, .getfield 64, 3, [(0, 5), (0, 7), (0, 0)], 0), (184, .iconst 0, 1, [(0, 0)], 0), (185, .iastore, 1, [], 0), (186, .aload_n 0, 1, [], 0), (187, .dup, 1, [], 0), (188, .getfield 64, 3, [(0, 5), (0, 7), (0, 0)], 0), (191, .iconst 1, 1, [(1, 0)], 0), (192, .iadd, 1, [], 0), (193, .putfield 64, 3, [(0, 5), (0, 7), (0, 0)], 0), (196, .iconst 1, 1, [(1, 0)], 0), (197, .ireturn, 1, [], 0)]
def mX6_comes : xM := (yX6_comes, cX6_comes, 3, (some .boolean), tX6_comes, KX6, false)
abbrev nX6_comes : Nat := 108
def tX6_passes : xT := [(0, .iconst 0, 1, [(0, 0)], 0), (1, .istore_n 2, 1, [], 0), (2, .iload_n 2, 1, [], 0), (3, .aload_n 1, 1, [], 0), (4, .arraylength, 1, [], 0), (5, .if_icmp .ge 53, 3, [(0, 58)], 0), (8, .aload_n 0, 1, [], 0), (9, .getfield 117, 3, [(0, 5), (0, 19), (0, 1)], 0), (12, .ifCond .eq 18, 3, [(0, 30)], 0), (15, .aload_n 0, 1, [], 0), (16, .getfield 47, 3, [(0, 5), (0, 17), (0, 2)], 0), (19, .aload_n 0, 1, [], 0), (20, .getfield 121, 3, [(0, 5), (0, 20), (0, 0)], 0), (23, .aload_n 1, 1, [], 0), (24, .iload_n 2, 1, [], 0), (25, .iaload, 1, [], 0), (26, .iastore, 1, [], 0), (27, .goto 15, 3, [(0, 42)], 0), (30, .aload_n 1, 1, [], 0), (31, .iload_n 2, 1, [], 0), (32, .aload_n 0, 1, [], 0), (33, .getfield 47, 3, [(0, 5), (0, 17), (0, 2)], 0), (36, .aload_n 0, 1, [], 0), (37, .getfield 121, 3, [(0, 5), (0, 20), (0, 0)], 0), (40, .iaload, 1, [], 0), (41, .iastore, 1, [], 0), (42, .aload_n 0, 1, [], 0), (43, .dup, 1, [], 0), (44, .getfield 121, 3, [(0, 5), (0, 20), (0, 0)], 0), (47, .iconst 1, 1, [(1, 0)], 0), (48, .iadd, 1, [], 0), (49, .putfield 121, 3, [(0, 5), (0, 20), (0, 0)], 0), (52, .iinc 2 1, 3, [(1, 0)], 0), (55, .goto (-53), 3, [(0, 2)], 0), (58, .return_, 1, [], 0)]
def mX6_passes : xM := (yX6_passes, cX6_passes, 3, none, tX6_passes, KX6, false)
abbrev nX6_passes : Nat := 109
def tX6_passOne : xT := [(0, .aload_n 0, 1, [], 0), (1, .getfield 117, 3, [(0, 5), (0, 19), (0, 1)], 0), (4, .ifCond .eq 7, 3, [(0, 11)], 0), (7, .iload_n 1, 1, [], 0), (8, .goto 12, 3, [(0, 20)], 0), (11, .aload_n 0, 1, [], 0), (12, .getfield 47, 3, [(0, 5), (0, 17), (0, 2)], 0), (15, .aload_n 0, 1, [], 0), (16, .getfield 121, 3, [(0, 5), (0, 20), (0, 0)], 0), (19, .iaload, 1, [], 0), (20, .istore_n 2, 1, [], 0), (21, .aload_n 0, 1, [], 0), (22, .getfield 117, 3, [(0, 5), (0, 19), (0, 1)], 0), (25, .ifCond .eq 13, 3, [(0, 38)], 0), (28, .aload_n 0, 1, [], 0), (29, .getfield 47, 3, [(0, 5), (0, 17), (0, 2)], 0), (32, .aload_n 0, 1, [], 0), (33, .getfield 121, 3, [(0, 5), (0, 20), (0, 0)], 0), (36, .iload_n 1, 1, [], 0), (37, .iastore, 1, [], 0), (38, .aload_n 0, 1, [], 0), (39, .dup, 1, [], 0), (40, .getfield 121, 3, [(0, 5), (0, 20), (0, 0)], 0), (43, .iconst 1, 1, [(1, 0)], 0), (44, .iadd, 1, [], 0), (45, .putfield 121, 3, [(0, 5), (0, 20), (0, 0)], 0), (48, .iload_n 2, 1, [], 0), (49, .ireturn, 1, [], 0)]
def mX6_passOne : xM := (yX6_passOne, cX6_passOne, 3, (some .int), tX6_passOne, KX6, false)
abbrev nX6_passOne : Nat := 110
def tX6_passesAll : xT := [(0, .aload_n 0, 1, [], 0), (1, .bipush 55, 2, [(55, 0)], 0), (3, .iload_n 1, 1, [], 0), (4, .imul, 1, [], 0), (5, .putfield 121, 3, [(0, 5), (0, 20), (0, 0)], 0), (8, .aload_n 0, 1, [], 0), (9, .iload_n 2, 1, [], 0), (10, .putfield 117, 3, [(0, 5), (0, 19), (0, 1)], 0), (13, .aload_n 0, 1, [], 0), (14, .aload_n 0, 1, [], 0), (15, .getfield 13, 3, [(0, 5), (0, 1), (0, 2)], 0), (18, .invokevirtual 124, 3, [(0, 109)], 0), (21, .aload_n 0, 1, [], 0), (22, .aload_n 0, 1, [], 0), (23, .getfield 16, 3, [(0, 5), (0, 2), (0, 2)], 0), (26, .invokevirtual 124, 3, [(0, 109)], 0), (29, .aload_n 0, 1, [], 0), (30, .aload_n 0, 1, [], 0), (31, .getfield 19, 3, [(0, 5), (0, 3), (0, 2)], 0), (34, .invokevirtual 124, 3, [(0, 109)], 0), (37, .aload_n 0, 1, [], 0), (38, .aload_n 0, 1, [], 0), (39, .getfield 22, 3, [(0, 5), (0, 4), (0, 2)], 0), (42, .invokevirtual 124, 3, [(0, 109)], 0), (45, .aload_n 0, 1, [], 0), (46, .aload_n 0, 1, [], 0), (47, .getfield 25, 3, [(0, 5), (0, 5), (0, 2)], 0), (50, .invokevirtual 124, 3, [(0, 109)], 0), (53, .aload_n 0, 1, [], 0), (54, .aload_n 0, 1, [], 0), (55, .getfield 28, 3, [(0, 5), (0, 6), (0, 2)], 0), (58, .invokevirtual 124, 3, [(0, 109)], 0), (61, .aload_n 0, 1, [], 0), (62, .aload_n 0, 1, [], 0), (63, .aload_n 0, 1, [], 0), (64, .getfield 64, 3, [(0, 5), (0, 7), (0, 0)], 0), (67, .invokevirtual 128, 3, [(0, 110)], 0), (70, .putfield 64, 3, [(0, 5), (0, 7), (0, 0)], 0), (73, .aload_n 0, 1, [], 0), (74, .aload_n 0, 1, [], 0), (75, .aload_n 0, 1, [], 0), (76, .getfield 103, 3, [(0, 5), (0, 8), (0, 0)], 0), (79, .invokevirtual 128, 3, [(0, 110)], 0), (82, .putfield 103, 3, [(0, 5), (0, 8), (0, 0)], 0), (85, .aload_n 0, 1, [], 0), (86, .aload_n 0, 1, [], 0), (87, .aload_n 0, 1, [], 0), (88, .getfield 31, 3, [(0, 5), (0, 9), (0, 0)], 0), (91, .invokevirtual 128, 3, [(0, 110)], 0), (94, .putfield 31, 3, [(0, 5), (0, 9), (0, 0)], 0), (97, .return_, 1, [], 0)]
def mX6_passesAll : xM := (yX6_passesAll, cX6_passesAll, 3, none, tX6_passesAll, KX6, false)
abbrev nX6_passesAll : Nat := 111
def tX6_lantern : xT := [(0, .aload_n 0, 1, [], 0), (1, .iconst 0, 1, [(0, 0)], 0), (2, .putfield 78, 3, [(0, 5), (0, 15), (0, 0)], 0), (5, .aload_n 0, 1, [], 0), (6, .iconst 0, 1, [(0, 0)], 0), (7, .putfield 97, 3, [(0, 5), (0, 16), (0, 0)], 0), (10, .iconst 1, 1, [(1, 0)], 0), (11, .istore_n 1, 1, [], 0), (12, .iload_n 1, 1, [], 0), (13, .ifCond .eq 47, 3, [(0, 60)], 0), (16, .aload_n 0, 1, [], 0), (17, .getfield 78, 3, [(0, 5), (0, 15), (0, 0)], 0), (20, .aload_n 0, 1, [], 0), (21, .getfield 71, 3, [(0, 5), (0, 14), (0, 0)], 0), (24, .if_icmp .lt 10, 3, [(0, 34)], 0), (27, .aload_n 0, 1, [], 0), (28, .getfield 97, 3, [(0, 5), (0, 16), (0, 0)], 0), (31, .ifCond .ne 29, 3, [(0, 60)], 0), (34, .aload_n 0, 1, [], 0), (35, .invokevirtual 106, 3, [(0, 107)], 0), (38, .istore_n 1, 1, [], 0), (39, .aload_n 0, 1, [], 0), (40, .dup, 1, [], 0), (41, .getfield 97, 3, [(0, 5), (0, 16), (0, 0)], 0), (44, .iload_n 1, 1, [], 0), (45, .ifCond .eq 7, 3, [(0, 52)], 0), (48, .iconst 1, 1, [(1, 0)], 0), (49, .goto 4, 3, [(0, 53)], 0), (52, .iconst 0, 1, [(0, 0)], 0), (53, .iadd, 1, [], 0), (54, .putfield 97, 3, [(0, 5), (0, 16), (0, 0)], 0), (57, .goto (-45), 3, [(0, 12)], 0), (60, .aload_n 0, 1, [], 0), (61, .iconst 0, 1, [(0, 0)], 0), (62, .putfield 71, 3, [(0, 5), (0, 14), (0, 0)], 0), (65, .iload_n 1, 1, [], 0), (66, .ifCond .ne 12, 3, [(0, 78)], 0), (69, .sipush (-1000), 3, [((-1000), 0)], 0), (72, .aload_n 0, 1, [], 0), (73, .getfield 78, 3, [(0, 5), (0, 15), (0, 0)], 0), (76, .isub, 1, [], 0), (77, .ireturn, 1, [], 0), (78, .aload_n 0, 1, [], 0), (79, .iconst 1, 1, [(1, 0)], 0), (80, .iconst 1, 1, [(1, 0)], 0), (81, .invokevirtual 110, 3, [(0, 111)], 0), (84, .iconst 0, 1, [(0, 0)], 0), (85, .istore_n 2, 1, [], 0), (86, .iload_n 2, 1, [], 0), (87, .aload_n 0, 1, [], 0), (88, .getfield 97, 3, [(0, 5), (0, 16), (0, 0)], 0), (91, .if_icmp .ge 37, 3, [(0, 128)], 0), (94, .aload_n 0, 1, [], 0), (95, .iload_n 2, 1, [], 0), (96, .invokevirtual 114, 3, [(0, 108)], 0), (99, .ifCond .eq 6, 3, [(0, 105)], 0), (102, .goto 20, 3, [(0, 122)], 0), (105, .aload_n 0, 1, [], 0), (106, .iconst 1, 1, [(1, 0)], 0), (107, .iconst 0, 1, [(0, 0)], 0), (108, .invokevirtual 110, 3, [(0, 111)], 0), (111, .sipush (-2000), 3, [((-2000), 0)], 0), (114, .aload_n 0, 1, [], 0), (115, .getfield 41, 3, [(0, 5), (0, 12), (0, 2)], 0), (118, .iload_n 2, 1, [], 0), (119, .iaload, 1, [], 0), (120, .isub, 1, [], 0), (121, .ireturn, 1, [], 0), (122, .iinc 2 1, 3, [(1, 0)], 0), (125, .goto (-39), 3, [(0, 86)], 0), (128, .aload_n 0, 1, [], 0), (129, .getfield 97, 3, [(0, 5), (0, 16), (0, 0)], 0), (132, .ireturn, 1, [], 0)]
def mX6_lantern : xM := (yX6_lantern, cX6_lantern, 3, (some .int), tX6_lantern, KX6, false)
abbrev nX6_lantern : Nat := 112
def tX6_image : xT := [(0, .aload_n 0, 1, [], 0), (1, .iconst 1, 1, [(1, 0)], 0), (2, .putfield 131, 3, [(0, 5), (0, 18), (0, 1)], 0), (5, .aload_n 0, 1, [], 0), (6, .iconst 0, 1, [(0, 0)], 0), (7, .iconst 1, 1, [(1, 0)], 0), (8, .invokevirtual 110, 3, [(0, 111)], 0), (11, .aload_n 0, 1, [], 0), (12, .getfield 64, 3, [(0, 5), (0, 7), (0, 0)], 0), (15, .ireturn, 1, [], 0)]
def mX6_image : xM := (yX6_image, cX6_image, 1, (some .int), tX6_image, KX6, false)
abbrev nX6_image : Nat := 113
def tX6_restore : xT := [(0, .aload_n 0, 1, [], 0), (1, .getfield 131, 3, [(0, 5), (0, 18), (0, 1)], 0), (4, .ifCond .ne 10, 3, [(0, 14)], 0), (7, .aload_n 0, 1, [], 0), (8, .bipush (-3), 2, [((-3), 0)], 0), (10, .invokevirtual 74, 3, [(0, 96)], 0), (13, .ireturn, 1, [], 0), (14, .aload_n 0, 1, [], 0), (15, .iconst 0, 1, [(0, 0)], 0), (16, .iconst 0, 1, [(0, 0)], 0), (17, .invokevirtual 110, 3, [(0, 111)], 0), (20, .aload_n 0, 1, [], 0), (21, .getfield 64, 3, [(0, 5), (0, 7), (0, 0)], 0), (24, .ireturn, 1, [], 0)]
def mX6_restore : xM := (yX6_restore, cX6_restore, 1, (some .int), tX6_restore, KX6, false)
abbrev nX6_restore : Nat := 114
def tX6_bits : xT := [(0, .iconst 0, 1, [(0, 0)], 0), (1, .istore_n 1, 1, [], 0), (2, .iconst 0, 1, [(0, 0)], 0), (3, .istore_n 2, 1, [], 0), (4, .iload_n 2, 1, [], 0), (5, .bipush 31, 2, [(31, 0)], 0), (7, .if_icmp .ge 17, 3, [(0, 24)], 0), (10, .iload_n 1, 1, [], 0), (11, .iload_n 0, 1, [], 0), (12, .iload_n 2, 1, [], 0), (13, .ishr, 1, [], 0), (14, .iconst 1, 1, [(1, 0)], 0), (15, .iand, 1, [], 0), (16, .iadd, 1, [], 0), (17, .istore_n 1, 1, [], 0), (18, .iinc 2 1, 3, [(1, 0)], 0), (21, .goto (-17), 3, [(0, 4)], 0), (24, .iload_n 1, 1, [], 0), (25, .ireturn, 1, [], 0)]
def mX6_bits : xM := (yX6_bits, cX6_bits, 3, (some .int), tX6_bits, KX6, true)
abbrev nX6_bits : Nat := 115
def tX6_mirrored : xT := [(0, .iconst 0, 1, [(0, 0)], 0), (1, .istore_n 1, 1, [], 0), (2, .iconst 0, 1, [(0, 0)], 0), (3, .istore_n 2, 1, [], 0), (4, .iload_n 2, 1, [], 0), (5, .bipush 16, 2, [(16, 0)], 0), (7, .if_icmp .ge 29, 3, [(0, 36)], 0), (10, .iload_n 1, 1, [], 0), (11, .iload_n 0, 1, [], 0), (12, .iload_n 2, 1, [], 0), (13, .ishr, 1, [], 0), (14, .iconst 1, 1, [(1, 0)], 0), (15, .iand, 1, [], 0), (16, .iload_n 2, 1, [], 0), (17, .iconst 4, 1, [(4, 0)], 0), (18, .idiv, 1, [], 0), (19, .iconst 4, 1, [(4, 0)], 0), (20, .imul, 1, [], 0), (21, .iconst 3, 1, [(3, 0)], 0), (22, .iadd, 1, [], 0), (23, .iload_n 2, 1, [], 0), (24, .iconst 4, 1, [(4, 0)], 0), (25, .irem, 1, [], 0), (26, .isub, 1, [], 0), (27, .ishl, 1, [], 0), (28, .ior, 1, [], 0), (29, .istore_n 1, 1, [], 0), (30, .iinc 2 1, 3, [(1, 0)], 0), (33, .goto (-29), 3, [(0, 4)], 0), (36, .iload_n 1, 1, [], 0), (37, .ireturn, 1, [], 0)]
def mX6_mirrored : xM := (yX6_mirrored, cX6_mirrored, 3, (some .int), tX6_mirrored, KX6, true)
abbrev nX6_mirrored : Nat := 116
def tX6_upsideDown : xT := [(0, .iconst 0, 1, [(0, 0)], 0), (1, .istore_n 1, 1, [], 0), (2, .iconst 0, 1, [(0, 0)], 0), (3, .istore_n 2, 1, [], 0), (4, .iload_n 2, 1, [], 0), (5, .bipush 16, 2, [(16, 0)], 0), (7, .if_icmp .ge 30, 3, [(0, 37)], 0), (10, .iload_n 1, 1, [], 0), (11, .iload_n 0, 1, [], 0), (12, .iload_n 2, 1, [], 0), (13, .ishr, 1, [], 0), (14, .iconst 1, 1, [(1, 0)], 0), (15, .iand, 1, [], 0), (16, .bipush 12, 2, [(12, 0)], 0), (18, .iload_n 2, 1, [], 0), (19, .iconst 4, 1, [(4, 0)], 0), (20, .idiv, 1, [], 0), (21, .iconst 4, 1, [(4, 0)], 0), (22, .imul, 1, [], 0), (23, .isub, 1, [], 0), (24, .iload_n 2, 1, [], 0), (25, .iconst 4, 1, [(4, 0)], 0), (26, .irem, 1, [], 0), (27, .iadd, 1, [], 0), (28, .ishl, 1, [], 0), (29, .ior, 1, [], 0), (30, .istore_n 1, 1, [], 0), (31, .iinc 2 1, 3, [(1, 0)], 0), (34, .goto (-30), 3, [(0, 4)], 0), (37, .iload_n 1, 1, [], 0), (38, .ireturn, 1, [], 0)]
def mX6_upsideDown : xM := (yX6_upsideDown, cX6_upsideDown, 3, (some .int), tX6_upsideDown, KX6, true)
abbrev nX6_upsideDown : Nat := 117
def tX6_shifted : xT := [(0, .iconst 0, 1, [(0, 0)], 0), (1, .istore_n 2, 1, [], 0), (2, .iconst 0, 1, [(0, 0)], 0), (3, .istore_n 3, 1, [], 0), (4, .iload_n 3, 1, [], 0), (5, .bipush 16, 2, [(16, 0)], 0), (7, .if_icmp .ge 31, 3, [(0, 38)], 0), (10, .iload_n 2, 1, [], 0), (11, .iload_n 0, 1, [], 0), (12, .iload_n 3, 1, [], 0), (13, .ishr, 1, [], 0), (14, .iconst 1, 1, [(1, 0)], 0), (15, .iand, 1, [], 0), (16, .iload_n 3, 1, [], 0), (17, .iconst 4, 1, [(4, 0)], 0), (18, .idiv, 1, [], 0), (19, .iconst 4, 1, [(4, 0)], 0), (20, .imul, 1, [], 0), (21, .iload_n 3, 1, [], 0), (22, .iconst 4, 1, [(4, 0)], 0), (23, .irem, 1, [], 0), (24, .iload_n 1, 1, [], 0), (25, .iadd, 1, [], 0), (26, .iconst 4, 1, [(4, 0)], 0), (27, .irem, 1, [], 0), (28, .iadd, 1, [], 0), (29, .ishl, 1, [], 0), (30, .ior, 1, [], 0), (31, .istore_n 2, 1, [], 0), (32, .iinc 3 1, 3, [(1, 0)], 0), (35, .goto (-31), 3, [(0, 4)], 0), (38, .iload_n 2, 1, [], 0), (39, .ireturn, 1, [], 0)]
def mX6_shifted : xM := (yX6_shifted, cX6_shifted, 4, (some .int), tX6_shifted, KX6, true)
abbrev nX6_shifted : Nat := 118
def tX6_onSlide : xT := [(0, .aload_n 0, 1, [], 0), (1, .getfield 19, 3, [(0, 5), (0, 3), (0, 2)], 0), (4, .iload_n 1, 1, [], 0), (5, .iaload, 1, [], 0), (6, .istore_n 2, 1, [], 0), (7, .aload_n 0, 1, [], 0), (8, .getfield 13, 3, [(0, 5), (0, 1), (0, 2)], 0), (11, .iload_n 1, 1, [], 0), (12, .iaload, 1, [], 0), (13, .tableswitch 92 1 5 #[35, 40, 48, 55, 68], 35, [(0, 105), (1, 48), (2, 53), (3, 61), (4, 68), (5, 81)], 0), (48, .iload_n 2, 1, [], 0), (49, .invokestatic 134, 3, [(0, 116)], 0), (52, .ireturn, 1, [], 0), (53, .iload_n 2, 1, [], 0), (54, .invokestatic 134, 3, [(0, 116)], 0), (57, .invokestatic 137, 3, [(0, 117)], 0), (60, .ireturn, 1, [], 0), (61, .ldc 140, 2, [(65535, 0)], 0), (63, .iload_n 2, 1, [], 0), (64, .iconst (-1), 1, [((-1), 0)], 0), (65, .ixor, 1, [], 0), (66, .iand, 1, [], 0), (67, .ireturn, 1, [], 0), (68, .iload_n 2, 1, [], 0), (69, .iconst 1, 1, [(1, 0)], 0), (70, .aload_n 0, 1, [], 0), (71, .getfield 16, 3, [(0, 5), (0, 2), (0, 2)], 0), (74, .iload_n 1, 1, [], 0), (75, .iaload, 1, [], 0), (76, .ishl, 1, [], 0), (77, .iconst (-1), 1, [((-1), 0)], 0), (78, .ixor, 1, [], 0), (79, .iand, 1, [], 0), (80, .ireturn, 1, [], 0), (81, .iload_n 2, 1, [], 0), (82, .iconst 1, 1, [(1, 0)], 0), (83, .aload_n 0, 1, [], 0), (84, .getfield 16, 3, [(0, 5), (0, 2), (0, 2)], 0), (87, .iload_n 1, 1, [], 0), (88, .iaload, 1, [], 0), (89, .ishl, 1, [], 0), (90, .iconst (-1), 1, [((-1), 0)], 0), (91, .ixor, 1, [], 0), (92, .iand, 1, [], 0), (93, .aload_n 0, 1, [], 0), (94, .getfield 16, 3, [(0, 5), (0, 2), (0, 2)], 0), (97, .iload_n 1, 1, [], 0), (98, .iaload, 1, [], 0), (99, .iconst 4, 1, [(4, 0)], 0), (100, .irem, 1, [], 0), (101, .invokestatic 141, 3, [(0, 118)], 0), (104, .ireturn, 1, [], 0), (105, .iload_n 2, 1, [], 0), (106, .ireturn, 1, [], 0)]
def mX6_onSlide : xM := (yX6_onSlide, cX6_onSlide, 3, (some .int), tX6_onSlide, KX6, false)
abbrev nX6_onSlide : Nat := 119
def tX6_laid : xT := [(0, .iconst 0, 1, [(0, 0)], 0), (1, .istore_n 3, 1, [], 0), (2, .iconst 0, 1, [(0, 0)], 0), (3, .istore 4, 2, [], 0), (5, .iload 4, 2, [], 0), (7, .aload_n 0, 1, [], 0), (8, .getfield 64, 3, [(0, 5), (0, 7), (0, 0)], 0), (11, .if_icmp .ge 50, 3, [(0, 61)], 0), (14, .iload_n 1, 1, [], 0), (15, .iload 4, 2, [], 0), (17, .ishr, 1, [], 0), (18, .iconst 1, 1, [(1, 0)], 0), (19, .iand, 1, [], 0), (20, .iconst 1, 1, [(1, 0)], 0), (21, .if_icmp .ne 34, 3, [(0, 55)], 0), (24, .iload_n 3, 1, [], 0), (25, .iload_n 2, 1, [], 0), (26, .iload 4, 2, [], 0), (28, .ishr, 1, [], 0), (29, .iconst 1, 1, [(1, 0)], 0), (30, .iand, 1, [], 0), (31, .iconst 1, 1, [(1, 0)], 0), (32, .if_icmp .ne 15, 3, [(0, 47)], 0), (35, .aload_n 0, 1, [], 0), (36, .iload 4, 2, [], 0), (38, .invokevirtual 145, 3, [(0, 119)], 0), (41, .invokestatic 134, 3, [(0, 116)], 0), (44, .goto 9, 3, [(0, 53)], 0), (47, .aload_n 0, 1, [], 0), (48, .iload 4, 2, [], 0), (50, .invokevirtual 145, 3, [(0, 119)], 0), (53, .ior, 1, [], 0), (54, .istore_n 3, 1, [], 0), (55, .iinc 4 1, 3, [(1, 0)], 0), (58, .goto (-53), 3, [(0, 5)], 0), (61, .iload_n 3, 1, [], 0), (62, .ireturn, 1, [], 0)]
def mX6_laid : xM := (yX6_laid, cX6_laid, 5, (some .int), tX6_laid, KX6, false)
abbrev nX6_laid : Nat := 120
def tX6_slide : xT := [(0, .aload_n 0, 1, [], 0), (1, .iload_n 1, 1, [], 0), (2, .invokevirtual 148, 3, [(0, 100)], 0), (5, .ifCond .ne 9, 3, [(0, 14)], 0), (8, .aload_n 0, 1, [], 0), (9, .iconst (-1), 1, [((-1), 0)], 0), (10, .invokevirtual 74, 3, [(0, 96)], 0), (13, .ireturn, 1, [], 0), (14, .iload_n 2, 1, [], 0), (15, .tableswitch 78 0 5 #[37, 44, 51, 58, 64, 71], 37, [(0, 93), (0, 52), (1, 59), (2, 66), (3, 73), (4, 79), (5, 86)], 0), (52, .aload_n 0, 1, [], 0), (53, .getfield 13, 3, [(0, 5), (0, 1), (0, 2)], 0), (56, .iload_n 1, 1, [], 0), (57, .iaload, 1, [], 0), (58, .ireturn, 1, [], 0), (59, .aload_n 0, 1, [], 0), (60, .getfield 16, 3, [(0, 5), (0, 2), (0, 2)], 0), (63, .iload_n 1, 1, [], 0), (64, .iaload, 1, [], 0), (65, .ireturn, 1, [], 0), (66, .aload_n 0, 1, [], 0), (67, .getfield 19, 3, [(0, 5), (0, 3), (0, 2)], 0), (70, .iload_n 1, 1, [], 0), (71, .iaload, 1, [], 0), (72, .ireturn, 1, [], 0), (73, .aload_n 0, 1, [], 0), (74, .iload_n 1, 1, [], 0), (75, .invokevirtual 145, 3, [(0, 119)], 0), (78, .ireturn, 1, [], 0), (79, .aload_n 0, 1, [], 0), (80, .getfield 22, 3, [(0, 5), (0, 4), (0, 2)], 0), (83, .iload_n 1, 1, [], 0), (84, .iaload, 1, [], 0), (85, .ireturn, 1, [], 0), (86, .aload_n 0, 1, [], 0), (87, .getfield 25, 3, [(0, 5), (0, 5), (0, 2)], 0), (90, .iload_n 1, 1, [], 0), (91, .iaload, 1, [], 0), (92, .ireturn, 1, [], 0), (93, .aload_n 0, 1, [], 0), (94, .bipush (-2), 2, [((-2), 0)], 0), (96, .invokevirtual 74, 3, [(0, 96)], 0), (99, .ireturn, 1, [], 0)]
def mX6_slide : xM := (yX6_slide, cX6_slide, 3, (some .int), tX6_slide, KX6, false)
abbrev nX6_slide : Nat := 121
def tX6_wanted : xT := [(0, .iload_n 1, 1, [], 0), (1, .iconst 0, 1, [(0, 0)], 0), (2, .aload_n 0, 1, [], 0), (3, .getfield 103, 3, [(0, 5), (0, 8), (0, 0)], 0), (6, .iconst 1, 1, [(1, 0)], 0), (7, .isub, 1, [], 0), (8, .invokestatic 85, 3, [(0, 98)], 0), (11, .ifCond .eq 12, 3, [(0, 23)], 0), (14, .aload_n 0, 1, [], 0), (15, .getfield 28, 3, [(0, 5), (0, 6), (0, 2)], 0), (18, .iload_n 1, 1, [], 0), (19, .iaload, 1, [], 0), (20, .goto 8, 3, [(0, 28)], 0), (23, .aload_n 0, 1, [], 0), (24, .iconst (-1), 1, [((-1), 0)], 0), (25, .invokevirtual 74, 3, [(0, 96)], 0), (28, .ireturn, 1, [], 0)]
def mX6_wanted : xM := (yX6_wanted, cX6_wanted, 2, (some .int), tX6_wanted, KX6, false)
abbrev nX6_wanted : Nat := 122
def tX6_heat : xT := [(0, .iload_n 1, 1, [], 0), (1, .iconst 1, 1, [(1, 0)], 0), (2, .bipush 9, 2, [(9, 0)], 0), (4, .invokestatic 67, 3, [(0, 99)], 0), (7, .istore_n 2, 1, [], 0), (8, .iload_n 2, 1, [], 0), (9, .ifCond .eq 9, 3, [(0, 18)], 0), (12, .aload_n 0, 1, [], 0), (13, .iload_n 2, 1, [], 0), (14, .invokevirtual 74, 3, [(0, 96)], 0), (17, .ireturn, 1, [], 0), (18, .aload_n 0, 1, [], 0), (19, .getfield 31, 3, [(0, 5), (0, 9), (0, 0)], 0), (22, .istore_n 3, 1, [], 0), (23, .aload_n 0, 1, [], 0), (24, .iload_n 1, 1, [], 0), (25, .putfield 31, 3, [(0, 5), (0, 9), (0, 0)], 0), (28, .iload_n 3, 1, [], 0), (29, .ireturn, 1, [], 0)]
def mX6_heat : xM := (yX6_heat, cX6_heat, 4, (some .int), tX6_heat, KX6, false)
abbrev nX6_heat : Nat := 123
def tX6_price : xT := [(0, .aload_n 0, 1, [], 0), (1, .iload_n 1, 1, [], 0), (2, .invokevirtual 148, 3, [(0, 100)], 0), (5, .ifCond .ne 9, 3, [(0, 14)], 0), (8, .aload_n 0, 1, [], 0), (9, .iconst (-1), 1, [((-1), 0)], 0), (10, .invokevirtual 74, 3, [(0, 96)], 0), (13, .ireturn, 1, [], 0), (14, .iload_n 2, 1, [], 0), (15, .iconst 0, 1, [(0, 0)], 0), (16, .bipush 99, 2, [(99, 0)], 0), (18, .invokestatic 67, 3, [(0, 99)], 0), (21, .istore_n 3, 1, [], 0), (22, .iload_n 3, 1, [], 0), (23, .ifCond .eq 9, 3, [(0, 32)], 0), (26, .aload_n 0, 1, [], 0), (27, .iload_n 3, 1, [], 0), (28, .invokevirtual 74, 3, [(0, 96)], 0), (31, .ireturn, 1, [], 0), (32, .aload_n 0, 1, [], 0), (33, .getfield 22, 3, [(0, 5), (0, 4), (0, 2)], 0), (36, .iload_n 1, 1, [], 0), (37, .iaload, 1, [], 0), (38, .istore 4, 2, [], 0), (40, .aload_n 0, 1, [], 0), (41, .getfield 22, 3, [(0, 5), (0, 4), (0, 2)], 0), (44, .iload_n 1, 1, [], 0), (45, .iload_n 2, 1, [], 0), (46, .iastore, 1, [], 0), (47, .iload 4, 2, [], 0), (49, .ireturn, 1, [], 0)]
def mX6_price : xM := (yX6_price, cX6_price, 5, (some .int), tX6_price, KX6, false)
abbrev nX6_price : Nat := 124
def tX6_lay : xT := [(0, .aload_n 0, 1, [], 0), (1, .iload_n 1, 1, [], 0), (2, .invokevirtual 151, 3, [(0, 101)], 0), (5, .ifCond .eq 20, 3, [(0, 25)], 0), (8, .aload_n 0, 1, [], 0), (9, .iload_n 2, 1, [], 0), (10, .invokevirtual 151, 3, [(0, 101)], 0), (13, .ifCond .eq 12, 3, [(0, 25)], 0), (16, .aload_n 0, 1, [], 0), (17, .iload_n 1, 1, [], 0), (18, .iload_n 2, 1, [], 0), (19, .invokevirtual 154, 3, [(0, 120)], 0), (22, .goto 8, 3, [(0, 30)], 0), (25, .aload_n 0, 1, [], 0), (26, .iconst (-1), 1, [((-1), 0)], 0), (27, .invokevirtual 74, 3, [(0, 96)], 0), (30, .ireturn, 1, [], 0)]
def mX6_lay : xM := (yX6_lay, cX6_lay, 3, (some .int), tX6_lay, KX6, false)
abbrev nX6_lay : Nat := 125
def tX6_projects : xT := [(0, .aload_n 0, 1, [], 0), (1, .iload_n 1, 1, [], 0), (2, .iconst 0, 1, [(0, 0)], 0), (3, .invokevirtual 154, 3, [(0, 120)], 0), (6, .istore_n 2, 1, [], 0), (7, .iconst 0, 1, [(0, 0)], 0), (8, .istore_n 3, 1, [], 0), (9, .iload_n 3, 1, [], 0), (10, .aload_n 0, 1, [], 0), (11, .getfield 64, 3, [(0, 5), (0, 7), (0, 0)], 0), (14, .if_icmp .ge 81, 3, [(0, 95)], 0), (17, .iload_n 1, 1, [], 0), (18, .iload_n 3, 1, [], 0), (19, .ishr, 1, [], 0), (20, .iconst 1, 1, [(1, 0)], 0), (21, .iand, 1, [], 0), (22, .ifCond .ne 6, 3, [(0, 28)], 0), (25, .goto 64, 3, [(0, 89)], 0), (28, .aload_n 0, 1, [], 0), (29, .getfield 25, 3, [(0, 5), (0, 5), (0, 2)], 0), (32, .iload_n 3, 1, [], 0), (33, .dup2, 1, [], 0), (34, .iaload, 1, [], 0), (35, .aload_n 0, 1, [], 0), (36, .getfield 25, 3, [(0, 5), (0, 5), (0, 2)], 0), (39, .iload_n 3, 1, [], 0), (40, .iaload, 1, [], 0), (41, .bipush 99, 2, [(99, 0)], 0), (43, .if_icmp .ge 7, 3, [(0, 50)], 0), (46, .iconst 1, 1, [(1, 0)], 0), (47, .goto 4, 3, [(0, 51)], 0), (50, .iconst 0, 1, [(0, 0)], 0), (51, .iadd, 1, [], 0), (52, .iastore, 1, [], 0), (53, .aload_n 0, 1, [], 0), (54, .getfield 25, 3, [(0, 5), (0, 5), (0, 2)], 0), (57, .iload_n 3, 1, [], 0), (58, .iaload, 1, [], 0), (59, .aload_n 0, 1, [], 0), (60, .getfield 31, 3, [(0, 5), (0, 9), (0, 0)], 0), (63, .irem, 1, [], 0), (64, .ifCond .ne 25, 3, [(0, 89)], 0), (67, .aload_n 0, 1, [], 0), (68, .getfield 19, 3, [(0, 5), (0, 3), (0, 2)], 0), (71, .iload_n 3, 1, [], 0), (72, .dup2, 1, [], 0), (73, .iaload, 1, [], 0), (74, .iconst 1, 1, [(1, 0)], 0), (75, .aload_n 0, 1, [], 0), (76, .getfield 25, 3, [(0, 5), (0, 5), (0, 2)], 0), (79, .iload_n 3, 1, [], 0), (80, .iaload, 1, [], 0), (81, .bipush 16, 2, [(16, 0)], 0), (83, .irem, 1, [], 0), (84, .ishl, 1, [], 0), (85, .iconst (-1), 1, [((-1), 0)], 0), (86, .ixor, 1, [], 0), (87, .iand, 1, [], 0), (88, .iastore, 1, [], 0), (89, .iinc 3 1, 3, [(1, 0)], 0), (92, .goto (-83), 3, [(0, 9)], 0), (95, .iload_n 2, 1, [], 0), (96, .ireturn, 1, [], 0)]
def mX6_projects : xM := (yX6_projects, cX6_projects, 4, (some .int), tX6_projects, KX6, false)
abbrev nX6_projects : Nat := 126
def tX6_isShow : xT := [(0, .aload_n 0, 1, [], 0), (1, .iload_n 1, 1, [], 0), (2, .invokevirtual 151, 3, [(0, 101)], 0), (5, .ifCond .eq 19, 3, [(0, 24)], 0), (8, .iload_n 1, 1, [], 0), (9, .invokestatic 157, 3, [(0, 115)], 0), (12, .iconst 1, 1, [(1, 0)], 0), (13, .iconst 4, 1, [(4, 0)], 0), (14, .invokestatic 85, 3, [(0, 98)], 0), (17, .ifCond .eq 7, 3, [(0, 24)], 0), (20, .iconst 1, 1, [(1, 0)], 0), (21, .goto 4, 3, [(0, 25)], 0), (24, .iconst 0, 1, [(0, 0)], 0), (25, .ireturn, 1, [], 0)]
def mX6_isShow : xM := (yX6_isShow, cX6_isShow, 2, (some .boolean), tX6_isShow, KX6, false)
abbrev nX6_isShow : Nat := 127
def tX6_project : xT := [(0, .aload_n 0, 1, [], 0), (1, .iload_n 1, 1, [], 0), (2, .invokevirtual 151, 3, [(0, 101)], 0), (5, .ifCond .ne 9, 3, [(0, 14)], 0), (8, .aload_n 0, 1, [], 0), (9, .iconst (-1), 1, [((-1), 0)], 0), (10, .invokevirtual 74, 3, [(0, 96)], 0), (13, .ireturn, 1, [], 0), (14, .aload_n 0, 1, [], 0), (15, .iload_n 1, 1, [], 0), (16, .invokevirtual 160, 3, [(0, 127)], 0), (19, .ifCond .eq 11, 3, [(0, 30)], 0), (22, .aload_n 0, 1, [], 0), (23, .iload_n 1, 1, [], 0), (24, .invokevirtual 163, 3, [(0, 126)], 0), (27, .goto 9, 3, [(0, 36)], 0), (30, .aload_n 0, 1, [], 0), (31, .bipush (-3), 2, [((-3), 0)], 0), (33, .invokevirtual 74, 3, [(0, 96)], 0), (36, .ireturn, 1, [], 0)]
def mX6_project : xM := (yX6_project, cX6_project, 2, (some .int), tX6_project, KX6, false)
abbrev nX6_project : Nat := 128
def tX6_groups : xT := [(0, .iconst 0, 1, [(0, 0)], 0), (1, .istore_n 1, 1, [], 0), (2, .iload_n 0, 1, [], 0), (3, .istore_n 2, 1, [], 0), (4, .iload_n 2, 1, [], 0), (5, .ifCond .eq 66, 3, [(0, 71)], 0), (8, .iload_n 2, 1, [], 0), (9, .iload_n 2, 1, [], 0), (10, .ineg, 1, [], 0), (11, .iand, 1, [], 0), (12, .istore_n 3, 1, [], 0), (13, .iconst 0, 1, [(0, 0)], 0), (14, .istore 4, 2, [], 0), (16, .iload 4, 2, [], 0), (18, .iload_n 3, 1, [], 0), (19, .if_icmp .eq 40, 3, [(0, 59)], 0), (22, .iload_n 3, 1, [], 0), (23, .istore 4, 2, [], 0), (25, .iload_n 3, 1, [], 0), (26, .iconst 4, 1, [(4, 0)], 0), (27, .ishl, 1, [], 0), (28, .iload_n 3, 1, [], 0), (29, .iconst 4, 1, [(4, 0)], 0), (30, .ishr, 1, [], 0), (31, .ior, 1, [], 0), (32, .iload_n 3, 1, [], 0), (33, .sipush 30583, 3, [(30583, 0)], 0), (36, .iand, 1, [], 0), (37, .iconst 1, 1, [(1, 0)], 0), (38, .ishl, 1, [], 0), (39, .ior, 1, [], 0), (40, .iload_n 3, 1, [], 0), (41, .ldc 166, 2, [(61166, 0)], 0), (43, .iand, 1, [], 0), (44, .iconst 1, 1, [(1, 0)], 0), (45, .ishr, 1, [], 0), (46, .ior, 1, [], 0), (47, .istore 5, 2, [], 0), (49, .iload_n 3, 1, [], 0), (50, .iload 5, 2, [], 0), (52, .iload_n 2, 1, [], 0), (53, .iand, 1, [], 0), (54, .ior, 1, [], 0), (55, .istore_n 3, 1, [], 0), (56, .goto (-40), 3, [(0, 16)], 0), (59, .iload_n 2, 1, [], 0), (60, .iload_n 3, 1, [], 0), (61, .iconst (-1), 1, [((-1), 0)], 0), (62, .ixor, 1, [], 0), (63, .iand, 1, [], 0), (64, .istore_n 2, 1, [], 0), (65, .iinc 1 1, 3, [(1, 0)], 0), (68, .goto (-64), 3, [(0, 4)], 0), (71, .iload_n 1, 1, [], 0), (72, .ireturn, 1, [], 0)]
def mX6_groups : xM := (yX6_groups, cX6_groups, 6, (some .int), tX6_groups, KX6, true)
abbrev nX6_groups : Nat := 129
def tX6_gaps : xT := [(0, .iload_n 2, 1, [], 0), (1, .iconst 0, 1, [(0, 0)], 0), (2, .iconst 1, 1, [(1, 0)], 0), (3, .invokestatic 85, 3, [(0, 98)], 0), (6, .ifCond .ne 10, 3, [(0, 16)], 0), (9, .aload_n 0, 1, [], 0), (10, .bipush (-2), 2, [((-2), 0)], 0), (12, .invokevirtual 74, 3, [(0, 96)], 0), (15, .ireturn, 1, [], 0), (16, .iload_n 1, 1, [], 0), (17, .iconst 0, 1, [(0, 0)], 0), (18, .ldc 140, 2, [(65535, 0)], 0), (20, .invokestatic 67, 3, [(0, 99)], 0), (23, .istore_n 3, 1, [], 0), (24, .iload_n 3, 1, [], 0), (25, .ifCond .eq 9, 3, [(0, 34)], 0), (28, .aload_n 0, 1, [], 0), (29, .iload_n 3, 1, [], 0), (30, .invokevirtual 74, 3, [(0, 96)], 0), (33, .ireturn, 1, [], 0), (34, .iload_n 2, 1, [], 0), (35, .ifCond .ne 13, 3, [(0, 48)], 0), (38, .bipush 16, 2, [(16, 0)], 0), (40, .iload_n 1, 1, [], 0), (41, .invokestatic 157, 3, [(0, 115)], 0), (44, .isub, 1, [], 0), (45, .goto 12, 3, [(0, 57)], 0), (48, .ldc 140, 2, [(65535, 0)], 0), (50, .iload_n 1, 1, [], 0), (51, .iconst (-1), 1, [((-1), 0)], 0), (52, .ixor, 1, [], 0), (53, .iand, 1, [], 0), (54, .invokestatic 167, 3, [(0, 129)], 0), (57, .ireturn, 1, [], 0)]
def mX6_gaps : xM := (yX6_gaps, cX6_gaps, 4, (some .int), tX6_gaps, KX6, false)
abbrev nX6_gaps : Nat := 130
def tX6_nearest : xT := [(0, .iload_n 2, 1, [], 0), (1, .iconst 0, 1, [(0, 0)], 0), (2, .iconst 1, 1, [(1, 0)], 0), (3, .invokestatic 85, 3, [(0, 98)], 0), (6, .ifCond .ne 10, 3, [(0, 16)], 0), (9, .aload_n 0, 1, [], 0), (10, .bipush (-2), 2, [((-2), 0)], 0), (12, .invokevirtual 74, 3, [(0, 96)], 0), (15, .ireturn, 1, [], 0), (16, .iload_n 1, 1, [], 0), (17, .iconst 0, 1, [(0, 0)], 0), (18, .ldc 140, 2, [(65535, 0)], 0), (20, .invokestatic 67, 3, [(0, 99)], 0), (23, .istore_n 3, 1, [], 0), (24, .iload_n 3, 1, [], 0), (25, .ifCond .eq 9, 3, [(0, 34)], 0), (28, .aload_n 0, 1, [], 0), (29, .iload_n 3, 1, [], 0), (30, .invokevirtual 74, 3, [(0, 96)], 0), (33, .ireturn, 1, [], 0), (34, .bipush (-9), 2, [((-9), 0)], 0), (36, .istore 4, 2, [], 0), (38, .bipush (-9), 2, [((-9), 0)], 0), (40, .istore 5, 2, [], 0), (42, .iconst 0, 1, [(0, 0)], 0), (43, .istore 6, 2, [], 0), (45, .iload 6, 2, [], 0), (47, .aload_n 0, 1, [], 0), (48, .getfield 103, 3, [(0, 5), (0, 8), (0, 0)], 0), (51, .if_icmp .ge 46, 3, [(0, 97)], 0), (54, .aload_n 0, 1, [], 0), (55, .getfield 28, 3, [(0, 5), (0, 6), (0, 2)], 0), (58, .iload 6, 2, [], 0), (60, .iaload, 1, [], 0), (61, .iload_n 1, 1, [], 0), (62, .ixor, 1, [], 0), (63, .invokestatic 157, 3, [(0, 115)], 0), (66, .istore 7, 2, [], 0), (68, .iload 4, 2, [], 0), (70, .ifCond .lt 13, 3, [(0, 83)], 0), (73, .iload 7, 2, [], 0), (75, .iload 5, 2, [], 0), (77, .if_icmp .lt 6, 3, [(0, 83)], 0), (80, .goto 11, 3, [(0, 91)], 0), (83, .iload 6, 2, [], 0), (85, .istore 4, 2, [], 0), (87, .iload 7, 2, [], 0), (89, .istore 5, 2, [], 0), (91, .iinc 6 1, 3, [(1, 0)], 0), (94, .goto (-49), 3, [(0, 45)], 0), (97, .iload_n 2, 1, [], 0), (98, .ifCond .ne 8, 3, [(0, 106)], 0), (101, .iload 4, 2, [], 0), (103, .goto 5, 3, [(0, 108)], 0), (106, .iload 5, 2, [], 0), (108, .ireturn, 1, [], 0)]
def mX6_nearest : xM := (yX6_nearest, cX6_nearest, 8, (some .int), tX6_nearest, KX6, false)
abbrev nX6_nearest : Nat := 131
def tX6_pricesOf : xT := [(0, .iconst 0, 1, [(0, 0)], 0), (1, .istore_n 2, 1, [], 0), (2, .iconst 0, 1, [(0, 0)], 0), (3, .istore_n 3, 1, [], 0), (4, .iload_n 3, 1, [], 0), (5, .aload_n 0, 1, [], 0), (6, .getfield 64, 3, [(0, 5), (0, 7), (0, 0)], 0), (9, .if_icmp .ge 24, 3, [(0, 33)], 0), (12, .iload_n 2, 1, [], 0), (13, .iload_n 1, 1, [], 0), (14, .iload_n 3, 1, [], 0), (15, .ishr, 1, [], 0), (16, .iconst 1, 1, [(1, 0)], 0), (17, .iand, 1, [], 0), (18, .aload_n 0, 1, [], 0), (19, .getfield 22, 3, [(0, 5), (0, 4), (0, 2)], 0), (22, .iload_n 3, 1, [], 0), (23, .iaload, 1, [], 0), (24, .imul, 1, [], 0), (25, .iadd, 1, [], 0), (26, .istore_n 2, 1, [], 0), (27, .iinc 3 1, 3, [(1, 0)], 0), (30, .goto (-26), 3, [(0, 4)], 0), (33, .iload_n 2, 1, [], 0), (34, .ireturn, 1, [], 0)]
def mX6_pricesOf : xM := (yX6_pricesOf, cX6_pricesOf, 4, (some .int), tX6_pricesOf, KX6, false)
abbrev nX6_pricesOf : Nat := 132
def tX6_tellsShown : xT := [(0, .aload_n 0, 1, [], 0), (1, .iload_n 2, 1, [], 0), (2, .iload_n 3, 1, [], 0), (3, .invokevirtual 154, 3, [(0, 120)], 0), (6, .iload_n 1, 1, [], 0), (7, .ixor, 1, [], 0), (8, .invokestatic 157, 3, [(0, 115)], 0), (11, .istore 4, 2, [], 0), (13, .aload_n 0, 1, [], 0), (14, .iload 4, 2, [], 0), (16, .aload_n 0, 1, [], 0), (17, .getfield 185, 3, [(0, 5), (0, 26), (0, 0)], 0), (20, .if_icmp .ge 8, 3, [(0, 28)], 0), (23, .iload 4, 2, [], 0), (25, .goto 7, 3, [(0, 32)], 0), (28, .aload_n 0, 1, [], 0), (29, .getfield 185, 3, [(0, 5), (0, 26), (0, 0)], 0), (32, .putfield 185, 3, [(0, 5), (0, 26), (0, 0)], 0), (35, .iload 4, 2, [], 0), (37, .ifCond .le 4, 3, [(0, 41)], 0), (40, .return_, 1, [], 0), (41, .aload_n 0, 1, [], 0), (42, .iload_n 2, 1, [], 0), (43, .invokevirtual 192, 3, [(0, 132)], 0), (46, .istore 5, 2, [], 0), (48, .aload_n 0, 1, [], 0), (49, .aload_n 0, 1, [], 0), (50, .getfield 182, 3, [(0, 5), (0, 25), (0, 0)], 0), (53, .ifCond .lt 12, 3, [(0, 65)], 0), (56, .iload 5, 2, [], 0), (58, .aload_n 0, 1, [], 0), (59, .getfield 182, 3, [(0, 5), (0, 25), (0, 0)], 0), (62, .if_icmp .ge 8, 3, [(0, 70)], 0), (65, .iload 5, 2, [], 0), (67, .goto 7, 3, [(0, 74)], 0), (70, .aload_n 0, 1, [], 0), (71, .getfield 182, 3, [(0, 5), (0, 25), (0, 0)], 0), (74, .putfield 182, 3, [(0, 5), (0, 25), (0, 0)], 0), (77, .iload_n 2, 1, [], 0), (78, .invokestatic 157, 3, [(0, 115)], 0), (81, .istore 6, 2, [], 0), (83, .aload_n 0, 1, [], 0), (84, .getfield 170, 3, [(0, 5), (0, 21), (0, 0)], 0), (87, .ifCond .lt 13, 3, [(0, 100)], 0), (90, .iload 6, 2, [], 0), (92, .aload_n 0, 1, [], 0), (93, .getfield 170, 3, [(0, 5), (0, 21), (0, 0)], 0), (96, .if_icmp .le 4, 3, [(0, 100)], 0), (99, .return_, 1, [], 0), (100, .iload 6, 2, [], 0), (102, .aload_n 0, 1, [], 0), (103, .getfield 170, 3, [(0, 5), (0, 21), (0, 0)], 0), (106, .if_icmp .ne 14, 3, [(0, 120)], 0), (109, .aload_n 0, 1, [], 0), (110, .dup, 1, [], 0), (111, .getfield 179, 3, [(0, 5), (0, 24), (0, 0)], 0), (114, .iconst 1, 1, [(1, 0)], 0), (115, .iadd, 1, [], 0), (116, .putfield 179, 3, [(0, 5), (0, 24), (0, 0)], 0), (119, .return_, 1, [], 0), (120, .aload_n 0, 1, [], 0), (121, .iload 6, 2, [], 0), (123, .putfield 170, 3, [(0, 5), (0, 21), (0, 0)], 0), (126, .aload_n 0, 1, [], 0), (127, .iload_n 2, 1, [], 0), (128, .putfield 173, 3, [(0, 5), (0, 22), (0, 0)], 0), (131, .aload_n 0, 1, [], 0), (132, .iload_n 3, 1, [], 0), (133, .putfield 176, 3, [(0, 5), (0, 23), (0, 0)], 0), (136, .aload_n 0, 1, [], 0), (137, .iconst 1, 1, [(1, 0)], 0), (138, .putfield 179, 3, [(0, 5), (0, 24), (0, 0)], 0), (141, .return_, 1, [], 0)]
def mX6_tellsShown : xM := (yX6_tellsShown, cX6_tellsShown, 7, none, tX6_tellsShown, KX6, false)
abbrev nX6_tellsShown : Nat := 133
def tX6_findShown : xT := [(0, .aload_n 0, 1, [], 0), (1, .bipush (-9), 2, [((-9), 0)], 0), (3, .putfield 170, 3, [(0, 5), (0, 21), (0, 0)], 0), (6, .aload_n 0, 1, [], 0), (7, .bipush (-9), 2, [((-9), 0)], 0), (9, .putfield 173, 3, [(0, 5), (0, 22), (0, 0)], 0), (12, .aload_n 0, 1, [], 0), (13, .bipush (-9), 2, [((-9), 0)], 0), (15, .putfield 176, 3, [(0, 5), (0, 23), (0, 0)], 0), (18, .aload_n 0, 1, [], 0), (19, .bipush (-9), 2, [((-9), 0)], 0), (21, .putfield 179, 3, [(0, 5), (0, 24), (0, 0)], 0), (24, .aload_n 0, 1, [], 0), (25, .bipush (-9), 2, [((-9), 0)], 0), (27, .putfield 182, 3, [(0, 5), (0, 25), (0, 0)], 0), (30, .aload_n 0, 1, [], 0), (31, .bipush 16, 2, [(16, 0)], 0), (33, .putfield 185, 3, [(0, 5), (0, 26), (0, 0)], 0), (36, .iconst 0, 1, [(0, 0)], 0), (37, .istore_n 2, 1, [], 0), (38, .iload_n 2, 1, [], 0), (39, .iconst 1, 1, [(1, 0)], 0), (40, .aload_n 0, 1, [], 0), (41, .getfield 64, 3, [(0, 5), (0, 7), (0, 0)], 0), (44, .ishl, 1, [], 0), (45, .if_icmp .ge 37, 3, [(0, 82)], 0), (48, .iconst 0, 1, [(0, 0)], 0), (49, .istore_n 3, 1, [], 0), (50, .iload_n 3, 1, [], 0), (51, .iload_n 2, 1, [], 0), (52, .if_icmp .gt 24, 3, [(0, 76)], 0), (55, .iload_n 3, 1, [], 0), (56, .iload_n 2, 1, [], 0), (57, .iconst (-1), 1, [((-1), 0)], 0), (58, .ixor, 1, [], 0), (59, .iand, 1, [], 0), (60, .ifCond .ne 10, 3, [(0, 70)], 0), (63, .aload_n 0, 1, [], 0), (64, .iload_n 1, 1, [], 0), (65, .iload_n 2, 1, [], 0), (66, .iload_n 3, 1, [], 0), (67, .invokevirtual 188, 3, [(0, 133)], 0), (70, .iinc 3 1, 3, [(1, 0)], 0), (73, .goto (-23), 3, [(0, 50)], 0), (76, .iinc 2 1, 3, [(1, 0)], 0), (79, .goto (-41), 3, [(0, 38)], 0), (82, .return_, 1, [], 0)]
def mX6_findShown : xM := (yX6_findShown, cX6_findShown, 4, none, tX6_findShown, KX6, false)
abbrev nX6_findShown : Nat := 134
def tX6_fewest : xT := [(0, .iload_n 2, 1, [], 0), (1, .iconst 0, 1, [(0, 0)], 0), (2, .iconst 3, 1, [(3, 0)], 0), (3, .invokestatic 85, 3, [(0, 98)], 0), (6, .ifCond .ne 10, 3, [(0, 16)], 0), (9, .aload_n 0, 1, [], 0), (10, .bipush (-2), 2, [((-2), 0)], 0), (12, .invokevirtual 74, 3, [(0, 96)], 0), (15, .ireturn, 1, [], 0), (16, .iload_n 1, 1, [], 0), (17, .iconst 0, 1, [(0, 0)], 0), (18, .ldc 140, 2, [(65535, 0)], 0), (20, .invokestatic 67, 3, [(0, 99)], 0), (23, .istore_n 3, 1, [], 0), (24, .iload_n 3, 1, [], 0), (25, .ifCond .eq 9, 3, [(0, 34)], 0), (28, .aload_n 0, 1, [], 0), (29, .iload_n 3, 1, [], 0), (30, .invokevirtual 74, 3, [(0, 96)], 0), (33, .ireturn, 1, [], 0), (34, .aload_n 0, 1, [], 0), (35, .iload_n 1, 1, [], 0), (36, .invokevirtual 195, 3, [(0, 134)], 0), (39, .iload_n 2, 1, [], 0), (40, .ifCond .ne 10, 3, [(0, 50)], 0), (43, .aload_n 0, 1, [], 0), (44, .getfield 170, 3, [(0, 5), (0, 21), (0, 0)], 0), (47, .goto 31, 3, [(0, 78)], 0), (50, .iload_n 2, 1, [], 0), (51, .iconst 1, 1, [(1, 0)], 0), (52, .if_icmp .ne 10, 3, [(0, 62)], 0), (55, .aload_n 0, 1, [], 0), (56, .getfield 173, 3, [(0, 5), (0, 22), (0, 0)], 0), (59, .goto 19, 3, [(0, 78)], 0), (62, .iload_n 2, 1, [], 0), (63, .iconst 2, 1, [(2, 0)], 0), (64, .if_icmp .ne 10, 3, [(0, 74)], 0), (67, .aload_n 0, 1, [], 0), (68, .getfield 176, 3, [(0, 5), (0, 23), (0, 0)], 0), (71, .goto 7, 3, [(0, 78)], 0), (74, .aload_n 0, 1, [], 0), (75, .getfield 179, 3, [(0, 5), (0, 24), (0, 0)], 0), (78, .ireturn, 1, [], 0)]
def mX6_fewest : xM := (yX6_fewest, cX6_fewest, 4, (some .int), tX6_fewest, KX6, false)
abbrev nX6_fewest : Nat := 135
def tX6_cheapest : xT := [(0, .iload_n 1, 1, [], 0), (1, .iconst 0, 1, [(0, 0)], 0), (2, .ldc 140, 2, [(65535, 0)], 0), (4, .invokestatic 67, 3, [(0, 99)], 0), (7, .istore_n 2, 1, [], 0), (8, .iload_n 2, 1, [], 0), (9, .ifCond .eq 9, 3, [(0, 18)], 0), (12, .aload_n 0, 1, [], 0), (13, .iload_n 2, 1, [], 0), (14, .invokevirtual 74, 3, [(0, 96)], 0), (17, .ireturn, 1, [], 0), (18, .aload_n 0, 1, [], 0), (19, .iload_n 1, 1, [], 0), (20, .invokevirtual 195, 3, [(0, 134)], 0), (23, .aload_n 0, 1, [], 0), (24, .getfield 182, 3, [(0, 5), (0, 25), (0, 0)], 0), (27, .ireturn, 1, [], 0)]
def mX6_cheapest : xM := (yX6_cheapest, cX6_cheapest, 3, (some .int), tX6_cheapest, KX6, false)
abbrev nX6_cheapest : Nat := 136
def tX6_near : xT := [(0, .iload_n 1, 1, [], 0), (1, .iconst 0, 1, [(0, 0)], 0), (2, .ldc 140, 2, [(65535, 0)], 0), (4, .invokestatic 67, 3, [(0, 99)], 0), (7, .istore_n 2, 1, [], 0), (8, .iload_n 2, 1, [], 0), (9, .ifCond .eq 9, 3, [(0, 18)], 0), (12, .aload_n 0, 1, [], 0), (13, .iload_n 2, 1, [], 0), (14, .invokevirtual 74, 3, [(0, 96)], 0), (17, .ireturn, 1, [], 0), (18, .aload_n 0, 1, [], 0), (19, .iload_n 1, 1, [], 0), (20, .invokevirtual 195, 3, [(0, 134)], 0), (23, .aload_n 0, 1, [], 0), (24, .getfield 185, 3, [(0, 5), (0, 26), (0, 0)], 0), (27, .ireturn, 1, [], 0)]
def mX6_near : xM := (yX6_near, cX6_near, 3, (some .int), tX6_near, KX6, false)
abbrev nX6_near : Nat := 137
def tX6_canWithout : xT := [(0, .iconst 0, 1, [(0, 0)], 0), (1, .istore_n 2, 1, [], 0), (2, .iconst 0, 1, [(0, 0)], 0), (3, .istore_n 3, 1, [], 0), (4, .iload_n 3, 1, [], 0), (5, .iconst 1, 1, [(1, 0)], 0), (6, .aload_n 0, 1, [], 0), (7, .getfield 64, 3, [(0, 5), (0, 7), (0, 0)], 0), (10, .ishl, 1, [], 0), (11, .if_icmp .ge 102, 3, [(0, 113)], 0), (14, .iload_n 1, 1, [], 0), (15, .ifCond .lt 15, 3, [(0, 30)], 0), (18, .iload_n 3, 1, [], 0), (19, .iload_n 1, 1, [], 0), (20, .ishr, 1, [], 0), (21, .iconst 1, 1, [(1, 0)], 0), (22, .iand, 1, [], 0), (23, .iconst 1, 1, [(1, 0)], 0), (24, .if_icmp .ne 6, 3, [(0, 30)], 0), (27, .goto 80, 3, [(0, 107)], 0), (30, .iconst 0, 1, [(0, 0)], 0), (31, .istore 4, 2, [], 0), (33, .iload 4, 2, [], 0), (35, .iload_n 3, 1, [], 0), (36, .if_icmp .gt 71, 3, [(0, 107)], 0), (39, .iload 4, 2, [], 0), (41, .iload_n 3, 1, [], 0), (42, .iconst (-1), 1, [((-1), 0)], 0), (43, .ixor, 1, [], 0), (44, .iand, 1, [], 0), (45, .ifCond .eq 6, 3, [(0, 51)], 0), (48, .goto 53, 3, [(0, 101)], 0), (51, .aload_n 0, 1, [], 0), (52, .iload_n 3, 1, [], 0), (53, .iload 4, 2, [], 0), (55, .invokevirtual 154, 3, [(0, 120)], 0), (58, .istore 5, 2, [], 0), (60, .iconst 0, 1, [(0, 0)], 0), (61, .istore 6, 2, [], 0), (63, .iload 6, 2, [], 0), (65, .aload_n 0, 1, [], 0), (66, .getfield 103, 3, [(0, 5), (0, 8), (0, 0)], 0), (69, .if_icmp .ge 32, 3, [(0, 101)], 0), (72, .iload_n 2, 1, [], 0), (73, .aload_n 0, 1, [], 0), (74, .getfield 28, 3, [(0, 5), (0, 6), (0, 2)], 0), (77, .iload 6, 2, [], 0), (79, .iaload, 1, [], 0), (80, .iload 5, 2, [], 0), (82, .if_icmp .ne 10, 3, [(0, 92)], 0), (85, .iconst 1, 1, [(1, 0)], 0), (86, .iload 6, 2, [], 0), (88, .ishl, 1, [], 0), (89, .goto 4, 3, [(0, 93)], 0), (92, .iconst 0, 1, [(0, 0)], 0), (93, .ior, 1, [], 0), (94, .istore_n 2, 1, [], 0), (95, .iinc 6 1, 3, [(1, 0)], 0), (98, .goto (-35), 3, [(0, 63)], 0), (101, .iinc 4 1, 3, [(1, 0)], 0), (104, .goto (-71), 3, [(0, 33)], 0), (107, .iinc 3 1, 3, [(1, 0)], 0), (110, .goto (-106), 3, [(0, 4)], 0), (113, .iload_n 2, 1, [], 0), (114, .ireturn, 1, [], 0)]
def mX6_canWithout : xM := (yX6_canWithout, cX6_canWithout, 7, (some .int), tX6_canWithout, KX6, false)
abbrev nX6_canWithout : Nat := 138
def tX6_can : xT := [(0, .iload_n 1, 1, [], 0), (1, .iconst (-1), 1, [((-1), 0)], 0), (2, .if_icmp .eq 11, 3, [(0, 13)], 0), (5, .aload_n 0, 1, [], 0), (6, .iload_n 1, 1, [], 0), (7, .invokevirtual 148, 3, [(0, 100)], 0), (10, .ifCond .eq 11, 3, [(0, 21)], 0), (13, .aload_n 0, 1, [], 0), (14, .iload_n 1, 1, [], 0), (15, .invokevirtual 199, 3, [(0, 138)], 0), (18, .goto 8, 3, [(0, 26)], 0), (21, .aload_n 0, 1, [], 0), (22, .iconst (-1), 1, [((-1), 0)], 0), (23, .invokevirtual 74, 3, [(0, 96)], 0), (26, .ireturn, 1, [], 0)]
def mX6_can : xM := (yX6_can, cX6_can, 2, (some .int), tX6_can, KX6, false)
abbrev nX6_can : Nat := 139
def tX6_worth : xT := [(0, .aload_n 0, 1, [], 0), (1, .iload_n 1, 1, [], 0), (2, .invokevirtual 148, 3, [(0, 100)], 0), (5, .ifCond .eq 23, 3, [(0, 28)], 0), (8, .aload_n 0, 1, [], 0), (9, .iconst (-1), 1, [((-1), 0)], 0), (10, .invokevirtual 199, 3, [(0, 138)], 0), (13, .invokestatic 157, 3, [(0, 115)], 0), (16, .aload_n 0, 1, [], 0), (17, .iload_n 1, 1, [], 0), (18, .invokevirtual 199, 3, [(0, 138)], 0), (21, .invokestatic 157, 3, [(0, 115)], 0), (24, .isub, 1, [], 0), (25, .goto 8, 3, [(0, 33)], 0), (28, .aload_n 0, 1, [], 0), (29, .iconst (-1), 1, [((-1), 0)], 0), (30, .invokevirtual 74, 3, [(0, 96)], 0), (33, .ireturn, 1, [], 0)]
def mX6_worth : xM := (yX6_worth, cX6_worth, 2, (some .int), tX6_worth, KX6, false)
abbrev nX6_worth : Nat := 140
def tX6_notAsked : xT := [(0, .aload_n 0, 1, [], 0), (1, .iload_n 1, 1, [], 0), (2, .invokevirtual 151, 3, [(0, 101)], 0), (5, .ifCond .ne 5, 3, [(0, 10)], 0), (8, .iconst (-1), 1, [((-1), 0)], 0), (9, .ireturn, 1, [], 0), (10, .iload_n 3, 1, [], 0), (11, .iconst 0, 1, [(0, 0)], 0), (12, .iload 4, 2, [], 0), (14, .invokestatic 85, 3, [(0, 98)], 0), (17, .ifCond .ne 8, 3, [(0, 25)], 0), (20, .bipush (-2), 2, [((-2), 0)], 0), (22, .goto 10, 3, [(0, 32)], 0), (25, .iload_n 2, 1, [], 0), (26, .iconst 0, 1, [(0, 0)], 0), (27, .ldc 140, 2, [(65535, 0)], 0), (29, .invokestatic 67, 3, [(0, 99)], 0), (32, .ireturn, 1, [], 0)]
def mX6_notAsked : xM := (yX6_notAsked, cX6_notAsked, 5, (some .int), tX6_notAsked, KX6, false)
abbrev nX6_notAsked : Nat := 141
def tX6_sure : xT := [(0, .aload_n 0, 1, [], 0), (1, .iload_n 1, 1, [], 0), (2, .iload_n 2, 1, [], 0), (3, .iload_n 3, 1, [], 0), (4, .iconst 2, 1, [(2, 0)], 0), (5, .invokevirtual 202, 3, [(0, 141)], 0), (8, .istore 4, 2, [], 0), (10, .iload 4, 2, [], 0), (12, .ifCond .eq 10, 3, [(0, 22)], 0), (15, .aload_n 0, 1, [], 0), (16, .iload 4, 2, [], 0), (18, .invokevirtual 74, 3, [(0, 96)], 0), (21, .ireturn, 1, [], 0), (22, .aload_n 0, 1, [], 0), (23, .iload_n 1, 1, [], 0), (24, .iconst 0, 1, [(0, 0)], 0), (25, .invokevirtual 154, 3, [(0, 120)], 0), (28, .istore 5, 2, [], 0), (30, .iload 5, 2, [], 0), (32, .iload_n 2, 1, [], 0), (33, .iconst (-1), 1, [((-1), 0)], 0), (34, .ixor, 1, [], 0), (35, .iand, 1, [], 0), (36, .ifCond .eq 6, 3, [(0, 42)], 0), (39, .bipush (-9), 2, [((-9), 0)], 0), (41, .ireturn, 1, [], 0), (42, .iload_n 3, 1, [], 0), (43, .ifCond .ne 12, 3, [(0, 55)], 0), (46, .iload_n 2, 1, [], 0), (47, .iload 5, 2, [], 0), (49, .iconst (-1), 1, [((-1), 0)], 0), (50, .ixor, 1, [], 0), (51, .iand, 1, [], 0), (52, .goto 24, 3, [(0, 76)], 0), (55, .iload_n 3, 1, [], 0), (56, .iconst 1, 1, [(1, 0)], 0), (57, .if_icmp .ne 12, 3, [(0, 69)], 0), (60, .ldc 140, 2, [(65535, 0)], 0), (62, .iload_n 2, 1, [], 0), (63, .iconst (-1), 1, [((-1), 0)], 0), (64, .ixor, 1, [], 0), (65, .iand, 1, [], 0), (66, .goto 10, 3, [(0, 76)], 0), (69, .iconst 1, 1, [(1, 0)], 0), (70, .iload 5, 2, [], 0), (72, .invokestatic 157, 3, [(0, 115)], 0), (75, .ishl, 1, [], 0), (76, .ireturn, 1, [], 0)]
def mX6_sure : xM := (yX6_sure, cX6_sure, 6, (some .int), tX6_sure, KX6, false)
abbrev nX6_sure : Nat := 142
def tX6_who : xT := [(0, .aload_n 0, 1, [], 0), (1, .iload_n 1, 1, [], 0), (2, .iload_n 2, 1, [], 0), (3, .iload_n 3, 1, [], 0), (4, .iconst 1, 1, [(1, 0)], 0), (5, .invokevirtual 202, 3, [(0, 141)], 0), (8, .istore 4, 2, [], 0), (10, .iload 4, 2, [], 0), (12, .ifCond .eq 10, 3, [(0, 22)], 0), (15, .aload_n 0, 1, [], 0), (16, .iload 4, 2, [], 0), (18, .invokevirtual 74, 3, [(0, 96)], 0), (21, .ireturn, 1, [], 0), (22, .iconst 0, 1, [(0, 0)], 0), (23, .istore 5, 2, [], 0), (25, .iconst 0, 1, [(0, 0)], 0), (26, .istore 6, 2, [], 0), (28, .iconst 0, 1, [(0, 0)], 0), (29, .istore 7, 2, [], 0), (31, .iload 7, 2, [], 0), (33, .aload_n 0, 1, [], 0), (34, .getfield 64, 3, [(0, 5), (0, 7), (0, 0)], 0), (37, .if_icmp .ge 111, 3, [(0, 148)], 0), (40, .aload_n 0, 1, [], 0), (41, .iload_n 1, 1, [], 0), (42, .iconst 0, 1, [(0, 0)], 0), (43, .invokevirtual 154, 3, [(0, 120)], 0), (46, .iload_n 2, 1, [], 0), (47, .if_icmp .eq 101, 3, [(0, 148)], 0), (50, .iload_n 1, 1, [], 0), (51, .iload 7, 2, [], 0), (53, .ishr, 1, [], 0), (54, .iconst 1, 1, [(1, 0)], 0), (55, .iand, 1, [], 0), (56, .ifCond .ne 6, 3, [(0, 62)], 0), (59, .goto 83, 3, [(0, 142)], 0), (62, .aload_n 0, 1, [], 0), (63, .iload_n 1, 1, [], 0), (64, .iconst 1, 1, [(1, 0)], 0), (65, .iload 7, 2, [], 0), (67, .ishl, 1, [], 0), (68, .iconst (-1), 1, [((-1), 0)], 0), (69, .ixor, 1, [], 0), (70, .iand, 1, [], 0), (71, .iconst 0, 1, [(0, 0)], 0), (72, .invokevirtual 154, 3, [(0, 120)], 0), (75, .istore 8, 2, [], 0), (77, .aload_n 0, 1, [], 0), (78, .iload 7, 2, [], 0), (80, .invokevirtual 145, 3, [(0, 119)], 0), (83, .istore 9, 2, [], 0), (85, .iconst 0, 1, [(0, 0)], 0), (86, .istore 10, 2, [], 0), (88, .iload 10, 2, [], 0), (90, .bipush 16, 2, [(16, 0)], 0), (92, .if_icmp .ge 50, 3, [(0, 142)], 0), (95, .iload 9, 2, [], 0), (97, .iload 10, 2, [], 0), (99, .ishr, 1, [], 0), (100, .iconst 1, 1, [(1, 0)], 0), (101, .iand, 1, [], 0), (102, .ifCond .eq 34, 3, [(0, 136)], 0), (105, .iload 8, 2, [], 0), (107, .iload 9, 2, [], 0), (109, .iconst 1, 1, [(1, 0)], 0), (110, .iload 10, 2, [], 0), (112, .ishl, 1, [], 0), (113, .iconst (-1), 1, [((-1), 0)], 0), (114, .ixor, 1, [], 0), (115, .iand, 1, [], 0), (116, .ior, 1, [], 0), (117, .iload_n 2, 1, [], 0), (118, .if_icmp .eq 6, 3, [(0, 124)], 0), (121, .goto 15, 3, [(0, 136)], 0), (124, .iload 5, 2, [], 0), (126, .iconst 1, 1, [(1, 0)], 0), (127, .iload 7, 2, [], 0), (129, .ishl, 1, [], 0), (130, .ior, 1, [], 0), (131, .istore 5, 2, [], 0), (133, .iinc 6 1, 3, [(1, 0)], 0), (136, .iinc 10 1, 3, [(1, 0)], 0), (139, .goto (-51), 3, [(0, 88)], 0), (142, .iinc 7 1, 3, [(1, 0)], 0), (145, .goto (-114), 3, [(0, 31)], 0), (148, .iload_n 3, 1, [], 0), (149, .ifCond .ne 8, 3, [(0, 157)], 0), (152, .iload 5, 2, [], 0), (154, .goto 5, 3, [(0, 159)], 0), (157, .iload 6, 2, [], 0), (159, .ireturn, 1, [], 0)]
def mX6_who : xM := (yX6_who, cX6_who, 11, (some .int), tX6_who, KX6, false)
abbrev nX6_who : Nat := 143
def tX6_divisor : xT := [(0, .lload_n 0, 1, [], 0), (1, .lstore 4, 2, [], 0), (3, .lload_n 2, 1, [], 0), (4, .lstore 6, 2, [], 0), (6, .lload 6, 2, [], 0), (8, .lconst 0, 1, [], 0), (9, .lcmp, 1, [], 0), (10, .ifCond .eq 21, 3, [(0, 31)], 0), (13, .lload 4, 2, [], 0), (15, .lload 6, 2, [], 0), (17, .lrem, 1, [], 0), (18, .lstore 8, 2, [], 0), (20, .lload 6, 2, [], 0), (22, .lstore 4, 2, [], 0), (24, .lload 8, 2, [], 0), (26, .lstore 6, 2, [], 0), (28, .goto (-22), 3, [(0, 6)], 0), (31, .lload 4, 2, [], 0), (33, .lreturn, 1, [], 0)]
def mX6_divisor : xM := (yX6_divisor, cX6_divisor, 10, (some .long), tX6_divisor, KX6, true)
abbrev nX6_divisor : Nat := 144
def tX6_dust : xT := [(0, .aload_n 0, 1, [], 0), (1, .iload_n 1, 1, [], 0), (2, .invokevirtual 151, 3, [(0, 101)], 0), (5, .ifCond .ne 9, 3, [(0, 14)], 0), (8, .aload_n 0, 1, [], 0), (9, .iconst (-1), 1, [((-1), 0)], 0), (10, .invokevirtual 206, 3, [(0, 97)], 0), (13, .lreturn, 1, [], 0), (14, .iload_n 3, 1, [], 0), (15, .iconst 0, 1, [(0, 0)], 0), (16, .iconst 1, 1, [(1, 0)], 0), (17, .invokestatic 85, 3, [(0, 98)], 0), (20, .ifCond .ne 10, 3, [(0, 30)], 0), (23, .aload_n 0, 1, [], 0), (24, .bipush (-2), 2, [((-2), 0)], 0), (26, .invokevirtual 206, 3, [(0, 97)], 0), (29, .lreturn, 1, [], 0), (30, .iload_n 2, 1, [], 0), (31, .iconst 0, 1, [(0, 0)], 0), (32, .bipush 9, 2, [(9, 0)], 0), (34, .invokestatic 67, 3, [(0, 99)], 0), (37, .istore 4, 2, [], 0), (39, .iload 4, 2, [], 0), (41, .ifCond .eq 10, 3, [(0, 51)], 0), (44, .aload_n 0, 1, [], 0), (45, .iload 4, 2, [], 0), (47, .invokevirtual 206, 3, [(0, 97)], 0), (50, .lreturn, 1, [], 0), (51, .lconst 1, 1, [], 1), (52, .lstore 5, 2, [], 0), (54, .lconst 1, 1, [], 1), (55, .lstore 7, 2, [], 0), (57, .aload_n 0, 1, [], 0), (58, .iload_n 1, 1, [], 0), (59, .iconst 0, 1, [(0, 0)], 0), (60, .invokevirtual 154, 3, [(0, 120)], 0), (63, .invokestatic 157, 3, [(0, 115)], 0), (66, .istore 9, 2, [], 0), (68, .iload 9, 2, [], 0), (70, .bipush 16, 2, [(16, 0)], 0), (72, .if_icmp .ge 27, 3, [(0, 99)], 0), (75, .lload 5, 2, [], 0), (77, .bipush 10, 2, [(10, 0)], 0), (79, .iload_n 2, 1, [], 0), (80, .isub, 1, [], 0), (81, .i2l, 1, [], 0), (82, .lmul, 1, [], 0), (83, .lstore 5, 2, [], 0), (85, .lload 7, 2, [], 0), (87, .ldc2_w 210, 3, [], 10), (90, .lmul, 1, [], 0), (91, .lstore 7, 2, [], 0), (93, .iinc 9 1, 3, [(1, 0)], 0), (96, .goto (-28), 3, [(0, 68)], 0), (99, .iload_n 3, 1, [], 0), (100, .ifCond .ne 8, 3, [(0, 108)], 0), (103, .lload 5, 2, [], 0), (105, .goto 5, 3, [(0, 110)], 0), (108, .lload 7, 2, [], 0), (110, .lload 5, 2, [], 0), (112, .lload 7, 2, [], 0), (114, .invokestatic 212, 3, [(0, 144)], 0), (117, .ldiv, 1, [], 0), (118, .lreturn, 1, [], 0)]
def mX6_dust : xM := (yX6_dust, cX6_dust, 10, (some .long), tX6_dust, KX6, false)
abbrev nX6_dust : Nat := 145
def tX6_findAsked : xT := [(0, .iconst 0, 1, [(0, 0)], 0), (1, .istore_n 1, 1, [], 0), (2, .iload_n 1, 1, [], 0), (3, .iconst 1, 1, [(1, 0)], 0), (4, .aload_n 0, 1, [], 0), (5, .getfield 64, 3, [(0, 5), (0, 7), (0, 0)], 0), (8, .ishl, 1, [], 0), (9, .if_icmp .ge 21, 3, [(0, 30)], 0), (12, .aload_n 0, 1, [], 0), (13, .getfield 53, 3, [(0, 5), (0, 28), (0, 2)], 0), (16, .iload_n 1, 1, [], 0), (17, .aload_n 0, 1, [], 0), (18, .iload_n 1, 1, [], 0), (19, .iconst 0, 1, [(0, 0)], 0), (20, .invokevirtual 154, 3, [(0, 120)], 0), (23, .iastore, 1, [], 0), (24, .iinc 1 1, 3, [(1, 0)], 0), (27, .goto (-25), 3, [(0, 2)], 0), (30, .iconst 0, 1, [(0, 0)], 0), (31, .istore_n 1, 1, [], 0), (32, .iconst 0, 1, [(0, 0)], 0), (33, .istore_n 2, 1, [], 0), (34, .iload_n 2, 1, [], 0), (35, .aload_n 0, 1, [], 0), (36, .getfield 103, 3, [(0, 5), (0, 8), (0, 0)], 0), (39, .if_icmp .ge 79, 3, [(0, 118)], 0), (42, .iconst 0, 1, [(0, 0)], 0), (43, .istore_n 3, 1, [], 0), (44, .iconst 0, 1, [(0, 0)], 0), (45, .istore 4, 2, [], 0), (47, .iload 4, 2, [], 0), (49, .iconst 1, 1, [(1, 0)], 0), (50, .aload_n 0, 1, [], 0), (51, .getfield 64, 3, [(0, 5), (0, 7), (0, 0)], 0), (54, .ishl, 1, [], 0), (55, .if_icmp .ge 35, 3, [(0, 90)], 0), (58, .iload_n 3, 1, [], 0), (59, .ifCond .ne 19, 3, [(0, 78)], 0), (62, .aload_n 0, 1, [], 0), (63, .getfield 53, 3, [(0, 5), (0, 28), (0, 2)], 0), (66, .iload 4, 2, [], 0), (68, .iaload, 1, [], 0), (69, .aload_n 0, 1, [], 0), (70, .getfield 28, 3, [(0, 5), (0, 6), (0, 2)], 0), (73, .iload_n 2, 1, [], 0), (74, .iaload, 1, [], 0), (75, .if_icmp .ne 7, 3, [(0, 82)], 0), (78, .iconst 1, 1, [(1, 0)], 0), (79, .goto 4, 3, [(0, 83)], 0), (82, .iconst 0, 1, [(0, 0)], 0), (83, .istore_n 3, 1, [], 0), (84, .iinc 4 1, 3, [(1, 0)], 0), (87, .goto (-40), 3, [(0, 47)], 0), (90, .iload_n 3, 1, [], 0), (91, .ifCond .ne 6, 3, [(0, 97)], 0), (94, .goto 18, 3, [(0, 112)], 0), (97, .aload_n 0, 1, [], 0), (98, .getfield 56, 3, [(0, 5), (0, 29), (0, 2)], 0), (101, .iload_n 1, 1, [], 0), (102, .aload_n 0, 1, [], 0), (103, .getfield 28, 3, [(0, 5), (0, 6), (0, 2)], 0), (106, .iload_n 2, 1, [], 0), (107, .iaload, 1, [], 0), (108, .iastore, 1, [], 0), (109, .iinc 1 1, 3, [(1, 0)], 0), (112, .iinc 2 1, 3, [(1, 0)], 0), (115, .goto (-81), 3, [(0, 34)], 0), (118, .iload_n 1, 1, [], 0), (119, .ireturn, 1, [], 0)]
def mX6_findAsked : xM := (yX6_findAsked, cX6_findAsked, 5, (some .int), tX6_findAsked, KX6, false)
abbrev nX6_findAsked : Nat := 146
def tX6_placeOf : xT := [(0, .sipush 1024, 3, [(1024, 0)], 0), (3, .iload_n 0, 1, [], 0), (4, .imul, 1, [], 0), (5, .sipush 256, 3, [(256, 0)], 0), (8, .iload_n 1, 1, [], 0), (9, .imul, 1, [], 0), (10, .iadd, 1, [], 0), (11, .iload_n 2, 1, [], 0), (12, .iadd, 1, [], 0), (13, .ireturn, 1, [], 0)]
def mX6_placeOf : xM := (yX6_placeOf, cX6_placeOf, 3, (some .int), tX6_placeOf, KX6, true)
abbrev nX6_placeOf : Nat := 147
def tX6_lowers : xT := [(0, .aload_n 0, 1, [], 0), (1, .getfield 50, 3, [(0, 5), (0, 27), (0, 2)], 0), (4, .iload_n 1, 1, [], 0), (5, .iaload, 1, [], 0), (6, .ifCond .lt 13, 3, [(0, 19)], 0), (9, .iload_n 2, 1, [], 0), (10, .aload_n 0, 1, [], 0), (11, .getfield 50, 3, [(0, 5), (0, 27), (0, 2)], 0), (14, .iload_n 1, 1, [], 0), (15, .iaload, 1, [], 0), (16, .if_icmp .ge 10, 3, [(0, 26)], 0), (19, .aload_n 0, 1, [], 0), (20, .getfield 50, 3, [(0, 5), (0, 27), (0, 2)], 0), (23, .iload_n 1, 1, [], 0), (24, .iload_n 2, 1, [], 0), (25, .iastore, 1, [], 0), (26, .return_, 1, [], 0)]
def mX6_lowers : xM := (yX6_lowers, cX6_lowers, 3, none, tX6_lowers, KX6, false)
abbrev nX6_lowers : Nat := 148
def tX6_goesFrom : xT := [(0, .aload_n 0, 1, [], 0), (1, .getfield 50, 3, [(0, 5), (0, 27), (0, 2)], 0), (4, .iload_n 1, 1, [], 0), (5, .iload_n 2, 1, [], 0), (6, .iload_n 3, 1, [], 0), (7, .invokestatic 216, 3, [(0, 147)], 0), (10, .iaload, 1, [], 0), (11, .istore 5, 2, [], 0), (13, .iconst 0, 1, [(0, 0)], 0), (14, .istore 6, 2, [], 0), (16, .iload 6, 2, [], 0), (18, .iload 4, 2, [], 0), (20, .if_icmp .ge 91, 3, [(0, 111)], 0), (23, .iload 5, 2, [], 0), (25, .ifCond .lt 86, 3, [(0, 111)], 0), (28, .iload_n 1, 1, [], 0), (29, .iload 6, 2, [], 0), (31, .ishr, 1, [], 0), (32, .iconst 1, 1, [(1, 0)], 0), (33, .iand, 1, [], 0), (34, .iconst 1, 1, [(1, 0)], 0), (35, .if_icmp .ne 6, 3, [(0, 41)], 0), (38, .goto 67, 3, [(0, 105)], 0), (41, .iconst 0, 1, [(0, 0)], 0), (42, .istore 7, 2, [], 0), (44, .iload 7, 2, [], 0), (46, .iconst 1, 1, [(1, 0)], 0), (47, .aload_n 0, 1, [], 0), (48, .getfield 64, 3, [(0, 5), (0, 7), (0, 0)], 0), (51, .ishl, 1, [], 0), (52, .if_icmp .ge 53, 3, [(0, 105)], 0), (55, .aload_n 0, 1, [], 0), (56, .getfield 53, 3, [(0, 5), (0, 28), (0, 2)], 0), (59, .iload 7, 2, [], 0), (61, .iaload, 1, [], 0), (62, .aload_n 0, 1, [], 0), (63, .getfield 56, 3, [(0, 5), (0, 29), (0, 2)], 0), (66, .iload 6, 2, [], 0), (68, .iaload, 1, [], 0), (69, .if_icmp .ne 30, 3, [(0, 99)], 0), (72, .aload_n 0, 1, [], 0), (73, .iload_n 1, 1, [], 0), (74, .iconst 1, 1, [(1, 0)], 0), (75, .iload 6, 2, [], 0), (77, .ishl, 1, [], 0), (78, .ior, 1, [], 0), (79, .iload 6, 2, [], 0), (81, .iload 7, 2, [], 0), (83, .invokestatic 216, 3, [(0, 147)], 0), (86, .iload 5, 2, [], 0), (88, .iload_n 3, 1, [], 0), (89, .iload 7, 2, [], 0), (91, .ixor, 1, [], 0), (92, .invokestatic 157, 3, [(0, 115)], 0), (95, .iadd, 1, [], 0), (96, .invokevirtual 219, 3, [(0, 148)], 0), (99, .iinc 7 1, 3, [(1, 0)], 0), (102, .goto (-58), 3, [(0, 44)], 0), (105, .iinc 6 1, 3, [(1, 0)], 0), (108, .goto (-92), 3, [(0, 16)], 0), (111, .return_, 1, [], 0)]
def mX6_goesFrom : xM := (yX6_goesFrom, cX6_goesFrom, 8, none, tX6_goesFrom, KX6, false)
abbrev nX6_goesFrom : Nat := 149
def tX6_round : xT := [(0, .aload_n 0, 1, [], 0), (1, .invokevirtual 223, 3, [(0, 146)], 0), (4, .istore_n 1, 1, [], 0), (5, .iload_n 1, 1, [], 0), (6, .ifCond .eq 8, 3, [(0, 14)], 0), (9, .iload_n 1, 1, [], 0), (10, .iconst 4, 1, [(4, 0)], 0), (11, .if_icmp .le 6, 3, [(0, 17)], 0), (14, .bipush (-9), 2, [((-9), 0)], 0), (16, .ireturn, 1, [], 0), (17, .iconst 0, 1, [(0, 0)], 0), (18, .istore_n 2, 1, [], 0), (19, .iload_n 2, 1, [], 0), (20, .sipush 16384, 3, [(16384, 0)], 0), (23, .if_icmp .ge 17, 3, [(0, 40)], 0), (26, .aload_n 0, 1, [], 0), (27, .getfield 50, 3, [(0, 5), (0, 27), (0, 2)], 0), (30, .iload_n 2, 1, [], 0), (31, .bipush (-9), 2, [((-9), 0)], 0), (33, .iastore, 1, [], 0), (34, .iinc 2 1, 3, [(1, 0)], 0), (37, .goto (-18), 3, [(0, 19)], 0), (40, .iconst 0, 1, [(0, 0)], 0), (41, .istore_n 2, 1, [], 0), (42, .iload_n 2, 1, [], 0), (43, .iload_n 1, 1, [], 0), (44, .if_icmp .ge 58, 3, [(0, 102)], 0), (47, .iconst 0, 1, [(0, 0)], 0), (48, .istore_n 3, 1, [], 0), (49, .iload_n 3, 1, [], 0), (50, .iconst 1, 1, [(1, 0)], 0), (51, .aload_n 0, 1, [], 0), (52, .getfield 64, 3, [(0, 5), (0, 7), (0, 0)], 0), (55, .ishl, 1, [], 0), (56, .if_icmp .ge 40, 3, [(0, 96)], 0), (59, .aload_n 0, 1, [], 0), (60, .getfield 53, 3, [(0, 5), (0, 28), (0, 2)], 0), (63, .iload_n 3, 1, [], 0), (64, .iaload, 1, [], 0), (65, .aload_n 0, 1, [], 0), (66, .getfield 56, 3, [(0, 5), (0, 29), (0, 2)], 0), (69, .iload_n 2, 1, [], 0), (70, .iaload, 1, [], 0), (71, .if_icmp .ne 19, 3, [(0, 90)], 0), (74, .aload_n 0, 1, [], 0), (75, .iconst 1, 1, [(1, 0)], 0), (76, .iload_n 2, 1, [], 0), (77, .ishl, 1, [], 0), (78, .iload_n 2, 1, [], 0), (79, .iload_n 3, 1, [], 0), (80, .invokestatic 216, 3, [(0, 147)], 0), (83, .iload_n 3, 1, [], 0), (84, .invokestatic 157, 3, [(0, 115)], 0), (87, .invokevirtual 219, 3, [(0, 148)], 0), (90, .iinc 3 1, 3, [(1, 0)], 0), (93, .goto (-44), 3, [(0, 49)], 0), (96, .iinc 2 1, 3, [(1, 0)], 0), (99, .goto (-57), 3, [(0, 42)], 0), (102, .iconst 1, 1, [(1, 0)], 0), (103, .iload_n 1, 1, [], 0), (104, .ishl, 1, [], 0), (105, .iconst 1, 1, [(1, 0)], 0), (106, .isub, 1, [], 0), (107, .istore_n 2, 1, [], 0), (108, .bipush (-9), 2, [((-9), 0)], 0), (110, .istore_n 3, 1, [], 0), (111, .iconst 1, 1, [(1, 0)], 0), (112, .istore 4, 2, [], 0), (114, .iload 4, 2, [], 0), (116, .iload_n 2, 1, [], 0), (117, .if_icmp .gt 108, 3, [(0, 225)], 0), (120, .iconst 0, 1, [(0, 0)], 0), (121, .istore 5, 2, [], 0), (123, .iload 5, 2, [], 0), (125, .sipush 1024, 3, [(1024, 0)], 0), (128, .if_icmp .ge 91, 3, [(0, 219)], 0), (131, .iload 4, 2, [], 0), (133, .iload_n 2, 1, [], 0), (134, .if_icmp .ge 25, 3, [(0, 159)], 0), (137, .aload_n 0, 1, [], 0), (138, .iload 4, 2, [], 0), (140, .iload 5, 2, [], 0), (142, .sipush 256, 3, [(256, 0)], 0), (145, .idiv, 1, [], 0), (146, .iload 5, 2, [], 0), (148, .sipush 256, 3, [(256, 0)], 0), (151, .irem, 1, [], 0), (152, .iload_n 1, 1, [], 0), (153, .invokevirtual 226, 3, [(0, 149)], 0), (156, .goto 57, 3, [(0, 213)], 0), (159, .aload_n 0, 1, [], 0), (160, .getfield 50, 3, [(0, 5), (0, 27), (0, 2)], 0), (163, .sipush 1024, 3, [(1024, 0)], 0), (166, .iload 4, 2, [], 0), (168, .imul, 1, [], 0), (169, .iload 5, 2, [], 0), (171, .iadd, 1, [], 0), (172, .iaload, 1, [], 0), (173, .ifCond .lt 40, 3, [(0, 213)], 0), (176, .iload_n 3, 1, [], 0), (177, .ifCond .lt 21, 3, [(0, 198)], 0), (180, .aload_n 0, 1, [], 0), (181, .getfield 50, 3, [(0, 5), (0, 27), (0, 2)], 0), (184, .sipush 1024, 3, [(1024, 0)], 0), (187, .iload 4, 2, [], 0), (189, .imul, 1, [], 0), (190, .iload 5, 2, [], 0), (192, .iadd, 1, [], 0), (193, .iaload, 1, [], 0), (194, .iload_n 3, 1, [], 0), (195, .if_icmp .ge 18, 3, [(0, 213)], 0), (198, .aload_n 0, 1, [], 0), (199, .getfield 50, 3, [(0, 5), (0, 27), (0, 2)], 0), (202, .sipush 1024, 3, [(1024, 0)], 0), (205, .iload 4, 2, [], 0), (207, .imul, 1, [], 0), (208, .iload 5, 2, [], 0), (210, .iadd, 1, [], 0), (211, .iaload, 1, [], 0), (212, .istore_n 3, 1, [], 0), (213, .iinc 5 1, 3, [(1, 0)], 0), (216, .goto (-93), 3, [(0, 123)], 0), (219, .iinc 4 1, 3, [(1, 0)], 0), (222, .goto (-108), 3, [(0, 114)], 0), (225, .iload_n 3, 1, [], 0), (226, .ireturn, 1, [], 0)]
def mX6_round : xM := (yX6_round, cX6_round, 6, (some .int), tX6_round, KX6, false)
abbrev nX6_round : Nat := 150
def tX6_row : xT := [(0, .iload_n 1, 1, [], 0), (1, .iconst 0, 1, [(0, 0)], 0), (2, .sipush 255, 3, [(255, 0)], 0), (5, .invokestatic 67, 3, [(0, 99)], 0), (8, .istore_n 2, 1, [], 0), (9, .iload_n 2, 1, [], 0), (10, .ifCond .ne 15, 3, [(0, 25)], 0), (13, .aload_n 0, 1, [], 0), (14, .getfield 230, 3, [(0, 5), (0, 31), (0, 0)], 0), (17, .bipush 12, 2, [(12, 0)], 0), (19, .if_icmp .ne 6, 3, [(0, 25)], 0), (22, .bipush (-6), 2, [((-6), 0)], 0), (24, .istore_n 2, 1, [], 0), (25, .iload_n 2, 1, [], 0), (26, .ifCond .eq 9, 3, [(0, 35)], 0), (29, .aload_n 0, 1, [], 0), (30, .iload_n 2, 1, [], 0), (31, .invokevirtual 74, 3, [(0, 96)], 0), (34, .ireturn, 1, [], 0), (35, .aload_n 0, 1, [], 0), (36, .getfield 59, 3, [(0, 5), (0, 30), (0, 2)], 0), (39, .aload_n 0, 1, [], 0), (40, .getfield 230, 3, [(0, 5), (0, 31), (0, 0)], 0), (43, .iload_n 1, 1, [], 0), (44, .iastore, 1, [], 0), (45, .aload_n 0, 1, [], 0), (46, .dup, 1, [], 0), (47, .getfield 230, 3, [(0, 5), (0, 31), (0, 0)], 0), (50, .iconst 1, 1, [(1, 0)], 0), (51, .iadd, 1, [], 0), (52, .putfield 230, 3, [(0, 5), (0, 31), (0, 0)], 0), (55, .aload_n 0, 1, [], 0), (56, .getfield 230, 3, [(0, 5), (0, 31), (0, 0)], 0), (59, .ireturn, 1, [], 0)]
def mX6_row : xM := (yX6_row, cX6_row, 3, (some .int), tX6_row, KX6, false)
abbrev nX6_row : Nat := 151
def tX6_isWish : xT := [(0, .iconst 0, 1, [(0, 0)], 0), (1, .istore_n 2, 1, [], 0), (2, .iload_n 2, 1, [], 0), (3, .aload_n 0, 1, [], 0), (4, .getfield 103, 3, [(0, 5), (0, 8), (0, 0)], 0), (7, .if_icmp .ge 21, 3, [(0, 28)], 0), (10, .aload_n 0, 1, [], 0), (11, .getfield 28, 3, [(0, 5), (0, 6), (0, 2)], 0), (14, .iload_n 2, 1, [], 0), (15, .iaload, 1, [], 0), (16, .iload_n 1, 1, [], 0), (17, .if_icmp .ne 5, 3, [(0, 22)], 0), (20, .iconst 1, 1, [(1, 0)], 0), (21, .ireturn, 1, [], 0), (22, .iinc 2 1, 3, [(1, 0)], 0), (25, .goto (-23), 3, [(0, 2)], 0), (28, .iconst 0, 1, [(0, 0)], 0), (29, .ireturn, 1, [], 0)]
def mX6_isWish : xM := (yX6_isWish, cX6_isWish, 3, (some .boolean), tX6_isWish, KX6, false)
abbrev nX6_isWish : Nat := 152
def tX6_judge : xT := [(0, .aload_n 0, 1, [], 0), (1, .getfield 230, 3, [(0, 5), (0, 31), (0, 0)], 0), (4, .istore_n 1, 1, [], 0), (5, .aload_n 0, 1, [], 0), (6, .iconst 0, 1, [(0, 0)], 0), (7, .putfield 230, 3, [(0, 5), (0, 31), (0, 0)], 0), (10, .aload_n 0, 1, [], 0), (11, .iconst 1, 1, [(1, 0)], 0), (12, .iconst 1, 1, [(1, 0)], 0), (13, .invokevirtual 110, 3, [(0, 111)], 0), (16, .bipush (-9), 2, [((-9), 0)], 0), (18, .istore_n 2, 1, [], 0), (19, .iconst 0, 1, [(0, 0)], 0), (20, .istore_n 3, 1, [], 0), (21, .iload_n 3, 1, [], 0), (22, .iload_n 1, 1, [], 0), (23, .if_icmp .ge 45, 3, [(0, 68)], 0), (26, .iload_n 2, 1, [], 0), (27, .ifCond .ge 41, 3, [(0, 68)], 0), (30, .aload_n 0, 1, [], 0), (31, .aload_n 0, 1, [], 0), (32, .getfield 59, 3, [(0, 5), (0, 30), (0, 2)], 0), (35, .iload_n 3, 1, [], 0), (36, .iaload, 1, [], 0), (37, .invokevirtual 160, 3, [(0, 127)], 0), (40, .ifCond .eq 20, 3, [(0, 60)], 0), (43, .aload_n 0, 1, [], 0), (44, .aload_n 0, 1, [], 0), (45, .aload_n 0, 1, [], 0), (46, .getfield 59, 3, [(0, 5), (0, 30), (0, 2)], 0), (49, .iload_n 3, 1, [], 0), (50, .iaload, 1, [], 0), (51, .invokevirtual 163, 3, [(0, 126)], 0), (54, .invokevirtual 233, 3, [(0, 152)], 0), (57, .ifCond .ne 5, 3, [(0, 62)], 0), (60, .iload_n 3, 1, [], 0), (61, .istore_n 2, 1, [], 0), (62, .iinc 3 1, 3, [(1, 0)], 0), (65, .goto (-44), 3, [(0, 21)], 0), (68, .aload_n 0, 1, [], 0), (69, .iconst 1, 1, [(1, 0)], 0), (70, .iconst 0, 1, [(0, 0)], 0), (71, .invokevirtual 110, 3, [(0, 111)], 0), (74, .iload_n 2, 1, [], 0), (75, .ireturn, 1, [], 0)]
def mX6_judge : xM := (yX6_judge, cX6_judge, 4, (some .int), tX6_judge, KX6, false)
abbrev nX6_judge : Nat := 153
def tX6_seeds : xT := [(0, .iload_n 1, 1, [], 0), (1, .iconst 1, 1, [(1, 0)], 0), (2, .bipush 40, 2, [(40, 0)], 0), (4, .invokestatic 67, 3, [(0, 99)], 0), (7, .istore_n 3, 1, [], 0), (8, .iload_n 3, 1, [], 0), (9, .ifCond .ne 13, 3, [(0, 22)], 0), (12, .aload_n 0, 1, [], 0), (13, .getfield 64, 3, [(0, 5), (0, 7), (0, 0)], 0), (16, .ifCond .ne 6, 3, [(0, 22)], 0), (19, .bipush (-3), 2, [((-3), 0)], 0), (21, .istore_n 3, 1, [], 0), (22, .iload_n 3, 1, [], 0), (23, .ifCond .eq 9, 3, [(0, 32)], 0), (26, .aload_n 0, 1, [], 0), (27, .iload_n 3, 1, [], 0), (28, .invokevirtual 74, 3, [(0, 96)], 0), (31, .ireturn, 1, [], 0), (32, .aload_n 0, 1, [], 0), (33, .iconst 1, 1, [(1, 0)], 0), (34, .iconst 1, 1, [(1, 0)], 0), (35, .invokevirtual 110, 3, [(0, 111)], 0), (38, .iload_n 2, 1, [], 0), (39, .istore 4, 2, [], 0), (41, .iconst 0, 1, [(0, 0)], 0), (42, .istore 5, 2, [], 0), (44, .iconst 0, 1, [(0, 0)], 0), (45, .istore 6, 2, [], 0), (47, .iload 6, 2, [], 0), (49, .iload_n 1, 1, [], 0), (50, .if_icmp .ge 82, 3, [(0, 132)], 0), (53, .iload 4, 2, [], 0), (55, .ldc 236, 2, [(1103515245, 0)], 0), (57, .imul, 1, [], 0), (58, .sipush 12345, 3, [(12345, 0)], 0), (61, .iadd, 1, [], 0), (62, .istore 4, 2, [], 0), (64, .iload 4, 2, [], 0), (66, .ldc 237, 2, [(2147483647, 0)], 0), (68, .iand, 1, [], 0), (69, .ldc 238, 2, [(65536, 0)], 0), (71, .idiv, 1, [], 0), (72, .aload_n 0, 1, [], 0), (73, .getfield 64, 3, [(0, 5), (0, 7), (0, 0)], 0), (76, .irem, 1, [], 0), (77, .istore 7, 2, [], 0), (79, .iload 4, 2, [], 0), (81, .ldc 236, 2, [(1103515245, 0)], 0), (83, .imul, 1, [], 0), (84, .sipush 12345, 3, [(12345, 0)], 0), (87, .iadd, 1, [], 0), (88, .istore 4, 2, [], 0), (90, .iload 4, 2, [], 0), (92, .ldc 237, 2, [(2147483647, 0)], 0), (94, .iand, 1, [], 0), (95, .ldc 238, 2, [(65536, 0)], 0), (97, .idiv, 1, [], 0), (98, .aload_n 0, 1, [], 0), (99, .getfield 64, 3, [(0, 5), (0, 7), (0, 0)], 0), (102, .irem, 1, [], 0), (103, .istore 8, 2, [], 0), (105, .iload 5, 2, [], 0), (107, .aload_n 0, 1, [], 0), (108, .iconst 1, 1, [(1, 0)], 0), (109, .iload 7, 2, [], 0), (111, .ishl, 1, [], 0), (112, .iconst 1, 1, [(1, 0)], 0), (113, .iload 8, 2, [], 0), (115, .ishl, 1, [], 0), (116, .ior, 1, [], 0), (117, .invokevirtual 163, 3, [(0, 126)], 0), (120, .invokestatic 157, 3, [(0, 115)], 0), (123, .iadd, 1, [], 0), (124, .istore 5, 2, [], 0), (126, .iinc 6 1, 3, [(1, 0)], 0), (129, .goto (-82), 3, [(0, 47)], 0), (132, .aload_n 0, 1, [], 0), (133, .iconst 1, 1, [(1, 0)], 0), (134, .iconst 0, 1, [(0, 0)], 0), (135, .invokevirtual 110, 3, [(0, 111)], 0), (138, .iload 5, 2, [], 0), (140, .ireturn, 1, [], 0)]
def mX6_seeds : xM := (yX6_seeds, cX6_seeds, 9, (some .int), tX6_seeds, KX6, false)
abbrev nX6_seeds : Nat := 154
def tX6_count : xT := [(0, .iload_n 1, 1, [], 0), (1, .bipush 11, 2, [(11, 0)], 0), (3, .bipush 16, 2, [(16, 0)], 0), (5, .invokestatic 85, 3, [(0, 98)], 0), (8, .ifCond .eq 13, 3, [(0, 21)], 0), (11, .aload_n 0, 1, [], 0), (12, .getfield 7, 3, [(0, 5), (0, 0), (0, 2)], 0), (15, .iload_n 1, 1, [], 0), (16, .bipush 10, 2, [(10, 0)], 0), (18, .isub, 1, [], 0), (19, .iaload, 1, [], 0), (20, .ireturn, 1, [], 0), (21, .iconst 0, 1, [(0, 0)], 0), (22, .istore_n 2, 1, [], 0), (23, .iload_n 1, 1, [], 0), (24, .tableswitch 109 0 6 #[44, 49, 54, 59, 86, 99, 104], 44, [(0, 133), (0, 68), (1, 73), (2, 78), (3, 83), (4, 110), (5, 123), (6, 128)], 0), (68, .aload_n 0, 1, [], 0), (69, .getfield 64, 3, [(0, 5), (0, 7), (0, 0)], 0), (72, .ireturn, 1, [], 0), (73, .aload_n 0, 1, [], 0), (74, .getfield 103, 3, [(0, 5), (0, 8), (0, 0)], 0), (77, .ireturn, 1, [], 0), (78, .aload_n 0, 1, [], 0), (79, .getfield 31, 3, [(0, 5), (0, 9), (0, 0)], 0), (82, .ireturn, 1, [], 0), (83, .iconst 0, 1, [(0, 0)], 0), (84, .istore_n 3, 1, [], 0), (85, .iload_n 3, 1, [], 0), (86, .aload_n 0, 1, [], 0), (87, .getfield 64, 3, [(0, 5), (0, 7), (0, 0)], 0), (90, .if_icmp .ge 18, 3, [(0, 108)], 0), (93, .iload_n 2, 1, [], 0), (94, .aload_n 0, 1, [], 0), (95, .getfield 25, 3, [(0, 5), (0, 5), (0, 2)], 0), (98, .iload_n 3, 1, [], 0), (99, .iaload, 1, [], 0), (100, .iadd, 1, [], 0), (101, .istore_n 2, 1, [], 0), (102, .iinc 3 1, 3, [(1, 0)], 0), (105, .goto (-20), 3, [(0, 85)], 0), (108, .iload_n 2, 1, [], 0), (109, .ireturn, 1, [], 0), (110, .aload_n 0, 1, [], 0), (111, .iconst 1, 1, [(1, 0)], 0), (112, .aload_n 0, 1, [], 0), (113, .getfield 64, 3, [(0, 5), (0, 7), (0, 0)], 0), (116, .ishl, 1, [], 0), (117, .iconst 1, 1, [(1, 0)], 0), (118, .isub, 1, [], 0), (119, .invokevirtual 192, 3, [(0, 132)], 0), (122, .ireturn, 1, [], 0), (123, .aload_n 0, 1, [], 0), (124, .getfield 71, 3, [(0, 5), (0, 14), (0, 0)], 0), (127, .ireturn, 1, [], 0), (128, .aload_n 0, 1, [], 0), (129, .getfield 230, 3, [(0, 5), (0, 31), (0, 0)], 0), (132, .ireturn, 1, [], 0), (133, .bipush (-9), 2, [((-9), 0)], 0), (135, .ireturn, 1, [], 0)]
def mX6_count : xM := (yX6_count, cX6_count, 4, (some .int), tX6_count, KX6, false)
abbrev nX6_count : Nat := 155
def xMs : List xM := [mX0_mirrored, mX0_mirrored, mX0_flipped, mX0_shifted, mX0_grown, mX0_groups, mX1_becomes, mX1_addsSlide, mX1_addsWanted, mX1_heats, mX1_has, mX1_hasAll, mX1_hasWanted, mJ6_bitCount_0f7a4, mX1_isProjectable, mX1_isWanted, mX1_wantedPicture, mX1_cracked, mX1_onSlide, mX1_told, mX1_repriced, mX1_laid, mX1_wear, mX1_projected, mX1_nearestWanted, mX1_cracksToShow, mX1_allUses, mX1_allPrices, mX2_isFull, mX2_taken, mX2_forget, mX2_stateOpened, mX2_isDigit, mX2_stateBehind, mX2_fault, mX2_signAt, mX2_digit, mX2_number, mX2_pictureBefore, mX2_statementComes, mX2_toldTo, mX3_usable, mX3_dark, mX3_load, mX3_isOutOfReach, mX3_noteFewest, mX3_seekFewest, mX3_findsFewest, mX3_seekCheapest, mX3_leastPrice, mX3_seekNear, mX3_leastUnlike, mX3_isShown, mX3_showable, mX4_layAll, mX4_isShownByOne, mX4_findStops, mX4_arrive, mX4_walk, mX4_leastSteps, mX4_leastCost, mX5_wrongNumber, mX5_refused, mX5_feed, mX5_lantern, mX5_wrongSlide, mX5_wrongWhat, mX5_first, mX5_slide, mX5_wanted, mX5_heat, mX5_price, mX5_wrongSet, mX5_lay, mX5_project, mX5_wrongAsked, mX5_gaps, mX5_nearest, mX5_fewest, mX5_cheapest, mX5_near, mX5_can, mX5_worth, mX5_sure, mX5_who, mX5_power, mX5_dust, mX5_round, mX5_row, mX5_judge, mX5_nextSeed, mX5_drawBelow, mX5_seeds, mX5_image, mX5_restore, mX5_count, mX6_no, mX6_lowest, mX6_isIn, mX6_bound, mX6_isSlide, mX6_areSlides, mX6_feed, mX6_next, mX6_readsNumber, mX6_readsPicture, mX6_readsSlide, mX6_statement, mX6_comes, mX6_passes, mX6_passOne, mX6_passesAll, mX6_lantern, mX6_image, mX6_restore, mX6_bits, mX6_mirrored, mX6_upsideDown, mX6_shifted, mX6_onSlide, mX6_laid, mX6_slide, mX6_wanted, mX6_heat, mX6_price, mX6_lay, mX6_projects, mX6_isShow, mX6_project, mX6_groups, mX6_gaps, mX6_nearest, mX6_pricesOf, mX6_tellsShown, mX6_findShown, mX6_fewest, mX6_cheapest, mX6_near, mX6_canWithout, mX6_can, mX6_worth, mX6_notAsked, mX6_sure, mX6_who, mX6_divisor, mX6_dust, mX6_findAsked, mX6_placeOf, mX6_lowers, mX6_goesFrom, mX6_round, mX6_row, mX6_isWish, mX6_judge, mX6_seeds, mX6_count]
end
section
/-! the tables are the classes' own: printed by wip/whole/gen_tabs.py -/
set_option maxRecDepth 100000 in
theorem xT_in {w : Cond} (i : Nat) (h : lw_tbl[i]? = some w) (hg : goodWord w = true) : w ∈ xTs := List.mem_filter.mpr ⟨List.mem_of_getElem? h, hg⟩
set_option maxRecDepth 100000 in
theorem xlayX1 : ∀ w ∈ wsX10, w ∈ xTs := by
  intro w hw
  have h : wsX10 = [90, 92, 94, 96, 98, 100, 102, 104, 106].filterMap (fun i => lw_tbl[i]?) := by decide +kernel
  have hg : wsX10.all goodWord = true := by decide +kernel
  refine List.mem_filter.mpr ⟨?_, List.all_eq_true.mp hg w hw⟩
  rw [h] at hw
  obtain ⟨i, -, hi⟩ := List.mem_filterMap.mp hw
  exact List.mem_of_getElem? hi
set_option maxRecDepth 100000 in
theorem xlayX2 : ∀ w ∈ wsX20, w ∈ xTs := by
  intro w hw
  have h : wsX20 = [119, 121].filterMap (fun i => lw_tbl[i]?) := by decide +kernel
  have hg : wsX20.all goodWord = true := by decide +kernel
  refine List.mem_filter.mpr ⟨?_, List.all_eq_true.mp hg w hw⟩
  rw [h] at hw
  obtain ⟨i, -, hi⟩ := List.mem_filterMap.mp hw
  exact List.mem_of_getElem? hi
set_option maxRecDepth 100000 in
theorem xlayX3 : ∀ w ∈ wsX30, w ∈ xTs := by
  intro w hw
  have h : wsX30 = [145, 147, 149, 151, 153, 155, 157, 159, 161, 163, 165].filterMap (fun i => lw_tbl[i]?) := by decide +kernel
  have hg : wsX30.all goodWord = true := by decide +kernel
  refine List.mem_filter.mpr ⟨?_, List.all_eq_true.mp hg w hw⟩
  rw [h] at hw
  obtain ⟨i, -, hi⟩ := List.mem_filterMap.mp hw
  exact List.mem_of_getElem? hi
set_option maxRecDepth 100000 in
theorem xlayX4 : ∀ w ∈ wsX40, w ∈ xTs := by
  intro w hw
  have h : wsX40 = [177, 179, 181].filterMap (fun i => lw_tbl[i]?) := by decide +kernel
  have hg : wsX40.all goodWord = true := by decide +kernel
  refine List.mem_filter.mpr ⟨?_, List.all_eq_true.mp hg w hw⟩
  rw [h] at hw
  obtain ⟨i, -, hi⟩ := List.mem_filterMap.mp hw
  exact List.mem_of_getElem? hi
set_option maxRecDepth 100000 in
theorem xlayX5 : ∀ w ∈ wsX50, w ∈ xTs := by
  intro w hw
  have h : wsX50 = [194, 196, 198, 200, 202, 204, 206, 208, 210, 212].filterMap (fun i => lw_tbl[i]?) := by decide +kernel
  have hg : wsX50.all goodWord = true := by decide +kernel
  refine List.mem_filter.mpr ⟨?_, List.all_eq_true.mp hg w hw⟩
  rw [h] at hw
  obtain ⟨i, -, hi⟩ := List.mem_filterMap.mp hw
  exact List.mem_of_getElem? hi
set_option maxRecDepth 100000 in
theorem xlayX6 : ∀ w ∈ wsX60, w ∈ xTs := by
  intro w hw
  have h : wsX60 = [649, 651, 653, 655, 657, 659, 661, 663, 665, 667, 669, 671, 673, 675, 677, 679, 681, 683, 685, 687, 689, 691, 693, 695, 697, 699, 701, 703, 705, 707, 709, 711].filterMap (fun i => lw_tbl[i]?) := by decide +kernel
  have hg : wsX60.all goodWord = true := by decide +kernel
  refine List.mem_filter.mpr ⟨?_, List.all_eq_true.mp hg w hw⟩
  rw [h] at hw
  obtain ⟨i, -, hi⟩ := List.mem_filterMap.mp hw
  exact List.mem_of_getElem? hi
set_option maxRecDepth 100000 in
theorem okJ6 : xCOk xTs xnl xMs KJ6 := ⟨fun _ h => absurd h List.not_mem_nil, List.forall_mem_cons.mpr ⟨xT_in 396 (by rfl) rfl, List.forall_mem_cons.mpr ⟨xT_in 397 (by rfl) rfl, List.forall_mem_cons.mpr ⟨xT_in 398 (by rfl) rfl, fun _ h => absurd h List.not_mem_nil⟩⟩⟩, fun _ h => absurd h List.not_mem_nil, fun _ h => absurd h List.not_mem_nil⟩
set_option maxRecDepth 100000 in
theorem xlX0_17 : (4 = 0 → Cond.methodLink KX0.1 17 Lib.Math.min.name ∈ xTs ∧ Cond.static Lib.Math.min.name ∈ xTs ∧ Cond.initialized "java/lang/Math" ∈ xTs ∧ Cond.code Lib.Math.min.name Lib.Math.min.code 2 (some .int) ∈ xTs) ∧ (4 ≠ 0 → ∀ M, xnth xMs 4 = some M → Cond.methodLink KX0.1 17 M.1 ∈ xTs) := ⟨fun h => absurd h (by decide), fun _ M h => by
  obtain rfl : M = mX0_grown := Option.some.inj (h.symm.trans (by rfl))
  exact xT_in 423 (by rfl) rfl⟩
set_option maxRecDepth 100000 in
theorem okX0 : xCOk xTs xnl xMs KX0 := ⟨fun _ h => absurd h List.not_mem_nil, List.forall_mem_cons.mpr ⟨xT_in 326 (by rfl) rfl, List.forall_mem_cons.mpr ⟨xT_in 327 (by rfl) rfl, List.forall_mem_cons.mpr ⟨xT_in 331 (by rfl) rfl, List.forall_mem_cons.mpr ⟨xT_in 332 (by rfl) rfl, List.forall_mem_cons.mpr ⟨xT_in 341 (by rfl) rfl, List.forall_mem_cons.mpr ⟨xT_in 342 (by rfl) rfl, fun _ h => absurd h List.not_mem_nil⟩⟩⟩⟩⟩⟩, fun _ h => absurd h List.not_mem_nil, List.forall_mem_cons.mpr ⟨xlX0_17, fun _ h => absurd h List.not_mem_nil⟩⟩
set_option maxRecDepth 100000 in
theorem xfX1_9 : xFOk xTs xnl KX1.1 9 0 0 2 := ⟨RX1, TX1, 9, tyX1, rfl, by decide, xlayX1, tyX1_ok, nmX1, Or.inl (xT_in 73 (by rfl) rfl), fun h => absurd h (by decide), fun h => absurd h (by decide)⟩
set_option maxRecDepth 100000 in
theorem xfX1_15 : xFOk xTs xnl KX1.1 15 0 1 2 := ⟨RX1, TX1, 9, tyX1, rfl, by decide, xlayX1, tyX1_ok, nmX1, Or.inl (xT_in 74 (by rfl) rfl), fun h => absurd h (by decide), fun h => absurd h (by decide)⟩
set_option maxRecDepth 100000 in
theorem xfX1_18 : xFOk xTs xnl KX1.1 18 0 2 2 := ⟨RX1, TX1, 9, tyX1, rfl, by decide, xlayX1, tyX1_ok, nmX1, Or.inl (xT_in 75 (by rfl) rfl), fun h => absurd h (by decide), fun h => absurd h (by decide)⟩
set_option maxRecDepth 100000 in
theorem xfX1_21 : xFOk xTs xnl KX1.1 21 0 3 2 := ⟨RX1, TX1, 9, tyX1, rfl, by decide, xlayX1, tyX1_ok, nmX1, Or.inl (xT_in 76 (by rfl) rfl), fun h => absurd h (by decide), fun h => absurd h (by decide)⟩
set_option maxRecDepth 100000 in
theorem xfX1_24 : xFOk xTs xnl KX1.1 24 0 4 2 := ⟨RX1, TX1, 9, tyX1, rfl, by decide, xlayX1, tyX1_ok, nmX1, Or.inl (xT_in 78 (by rfl) rfl), fun h => absurd h (by decide), fun h => absurd h (by decide)⟩
set_option maxRecDepth 100000 in
theorem xfX1_27 : xFOk xTs xnl KX1.1 27 0 5 2 := ⟨RX1, TX1, 9, tyX1, rfl, by decide, xlayX1, tyX1_ok, nmX1, Or.inl (xT_in 79 (by rfl) rfl), fun h => absurd h (by decide), fun h => absurd h (by decide)⟩
set_option maxRecDepth 100000 in
theorem xfX1_34 : xFOk xTs xnl KX1.1 34 0 6 0 := ⟨RX1, TX1, 9, tyX1, rfl, by decide, xlayX1, tyX1_ok, nmX1, Or.inl (xT_in 81 (by rfl) rfl), fun _ => ⟨rfl, rfl⟩, fun h => absurd h (by decide)⟩
set_option maxRecDepth 100000 in
theorem xfX1_37 : xFOk xTs xnl KX1.1 37 0 7 0 := ⟨RX1, TX1, 9, tyX1, rfl, by decide, xlayX1, tyX1_ok, nmX1, Or.inl (xT_in 84 (by rfl) rfl), fun _ => ⟨rfl, rfl⟩, fun h => absurd h (by decide)⟩
set_option maxRecDepth 100000 in
theorem xfX1_30 : xFOk xTs xnl KX1.1 30 0 8 0 := ⟨RX1, TX1, 9, tyX1, rfl, by decide, xlayX1, tyX1_ok, nmX1, Or.inl (xT_in 88 (by rfl) rfl), fun _ => ⟨rfl, rfl⟩, fun h => absurd h (by decide)⟩
set_option maxRecDepth 100000 in
theorem xlX1_53 : (10 = 0 → Cond.methodLink KX1.1 53 Lib.Math.min.name ∈ xTs ∧ Cond.static Lib.Math.min.name ∈ xTs ∧ Cond.initialized "java/lang/Math" ∈ xTs ∧ Cond.code Lib.Math.min.name Lib.Math.min.code 2 (some .int) ∈ xTs) ∧ (10 ≠ 0 → ∀ M, xnth xMs 10 = some M → Cond.methodLink KX1.1 53 M.1 ∈ xTs) := ⟨fun h => absurd h (by decide), fun _ M h => by
  obtain rfl : M = mX1_has := Option.some.inj (h.symm.trans (by rfl))
  exact xT_in 318 (by rfl) rfl⟩
set_option maxRecDepth 100000 in
theorem xlX1_56 : (18 = 0 → Cond.methodLink KX1.1 56 Lib.Math.min.name ∈ xTs ∧ Cond.static Lib.Math.min.name ∈ xTs ∧ Cond.initialized "java/lang/Math" ∈ xTs ∧ Cond.code Lib.Math.min.name Lib.Math.min.code 2 (some .int) ∈ xTs) ∧ (18 ≠ 0 → ∀ M, xnth xMs 18 = some M → Cond.methodLink KX1.1 56 M.1 ∈ xTs) := ⟨fun h => absurd h (by decide), fun _ M h => by
  obtain rfl : M = mX1_onSlide := Option.some.inj (h.symm.trans (by rfl))
  exact xT_in 319 (by rfl) rfl⟩
set_option maxRecDepth 100000 in
theorem xlX1_59 : (1 = 0 → Cond.methodLink KX1.1 59 Lib.Math.min.name ∈ xTs ∧ Cond.static Lib.Math.min.name ∈ xTs ∧ Cond.initialized "java/lang/Math" ∈ xTs ∧ Cond.code Lib.Math.min.name Lib.Math.min.code 2 (some .int) ∈ xTs) ∧ (1 ≠ 0 → ∀ M, xnth xMs 1 = some M → Cond.methodLink KX1.1 59 M.1 ∈ xTs) := ⟨fun h => absurd h (by decide), fun _ M h => by
  obtain rfl : M = mX0_mirrored := Option.some.inj (h.symm.trans (by rfl))
  exact xT_in 323 (by rfl) rfl⟩
set_option maxRecDepth 100000 in
theorem xlX1_64 : (2 = 0 → Cond.methodLink KX1.1 64 Lib.Math.min.name ∈ xTs ∧ Cond.static Lib.Math.min.name ∈ xTs ∧ Cond.initialized "java/lang/Math" ∈ xTs ∧ Cond.code Lib.Math.min.name Lib.Math.min.code 2 (some .int) ∈ xTs) ∧ (2 ≠ 0 → ∀ M, xnth xMs 2 = some M → Cond.methodLink KX1.1 64 M.1 ∈ xTs) := ⟨fun h => absurd h (by decide), fun _ M h => by
  obtain rfl : M = mX0_flipped := Option.some.inj (h.symm.trans (by rfl))
  exact xT_in 328 (by rfl) rfl⟩
set_option maxRecDepth 100000 in
theorem xlX1_68 : (17 = 0 → Cond.methodLink KX1.1 68 Lib.Math.min.name ∈ xTs ∧ Cond.static Lib.Math.min.name ∈ xTs ∧ Cond.initialized "java/lang/Math" ∈ xTs ∧ Cond.code Lib.Math.min.name Lib.Math.min.code 2 (some .int) ∈ xTs) ∧ (17 ≠ 0 → ∀ M, xnth xMs 17 = some M → Cond.methodLink KX1.1 68 M.1 ∈ xTs) := ⟨fun h => absurd h (by decide), fun _ M h => by
  obtain rfl : M = mX1_cracked := Option.some.inj (h.symm.trans (by rfl))
  exact xT_in 334 (by rfl) rfl⟩
set_option maxRecDepth 100000 in
theorem xlX1_71 : (3 = 0 → Cond.methodLink KX1.1 71 Lib.Math.min.name ∈ xTs ∧ Cond.static Lib.Math.min.name ∈ xTs ∧ Cond.initialized "java/lang/Math" ∈ xTs ∧ Cond.code Lib.Math.min.name Lib.Math.min.code 2 (some .int) ∈ xTs) ∧ (3 ≠ 0 → ∀ M, xnth xMs 3 = some M → Cond.methodLink KX1.1 71 M.1 ∈ xTs) := ⟨fun h => absurd h (by decide), fun _ M h => by
  obtain rfl : M = mX0_shifted := Option.some.inj (h.symm.trans (by rfl))
  exact xT_in 338 (by rfl) rfl⟩
set_option maxRecDepth 100000 in
theorem xlX1_50 : (12 = 0 → Cond.methodLink KX1.1 50 Lib.Math.min.name ∈ xTs ∧ Cond.static Lib.Math.min.name ∈ xTs ∧ Cond.initialized "java/lang/Math" ∈ xTs ∧ Cond.code Lib.Math.min.name Lib.Math.min.code 2 (some .int) ∈ xTs) ∧ (12 ≠ 0 → ∀ M, xnth xMs 12 = some M → Cond.methodLink KX1.1 50 M.1 ∈ xTs) := ⟨fun h => absurd h (by decide), fun _ M h => by
  obtain rfl : M = mX1_hasWanted := Option.some.inj (h.symm.trans (by rfl))
  exact xT_in 355 (by rfl) rfl⟩
set_option maxRecDepth 100000 in
theorem xlX1_40 : (11 = 0 → Cond.methodLink KX1.1 40 Lib.Math.min.name ∈ xTs ∧ Cond.static Lib.Math.min.name ∈ xTs ∧ Cond.initialized "java/lang/Math" ∈ xTs ∧ Cond.code Lib.Math.min.name Lib.Math.min.code 2 (some .int) ∈ xTs) ∧ (11 ≠ 0 → ∀ M, xnth xMs 11 = some M → Cond.methodLink KX1.1 40 M.1 ∈ xTs) := ⟨fun h => absurd h (by decide), fun _ M h => by
  obtain rfl : M = mX1_hasAll := Option.some.inj (h.symm.trans (by rfl))
  exact xT_in 392 (by rfl) rfl⟩
set_option maxRecDepth 100000 in
theorem xlX1_44 : (13 = 0 → Cond.methodLink KX1.1 44 Lib.Math.min.name ∈ xTs ∧ Cond.static Lib.Math.min.name ∈ xTs ∧ Cond.initialized "java/lang/Math" ∈ xTs ∧ Cond.code Lib.Math.min.name Lib.Math.min.code 2 (some .int) ∈ xTs) ∧ (13 ≠ 0 → ∀ M, xnth xMs 13 = some M → Cond.methodLink KX1.1 44 M.1 ∈ xTs) := ⟨fun h => absurd h (by decide), fun _ M h => by
  obtain rfl : M = mJ6_bitCount_0f7a4 := Option.some.inj (h.symm.trans (by rfl))
  exact xT_in 393 (by rfl) rfl⟩
set_option maxRecDepth 100000 in
theorem xlX1_75 : (21 = 0 → Cond.methodLink KX1.1 75 Lib.Math.min.name ∈ xTs ∧ Cond.static Lib.Math.min.name ∈ xTs ∧ Cond.initialized "java/lang/Math" ∈ xTs ∧ Cond.code Lib.Math.min.name Lib.Math.min.code 2 (some .int) ∈ xTs) ∧ (21 ≠ 0 → ∀ M, xnth xMs 21 = some M → Cond.methodLink KX1.1 75 M.1 ∈ xTs) := ⟨fun h => absurd h (by decide), fun _ M h => by
  obtain rfl : M = mX1_laid := Option.some.inj (h.symm.trans (by rfl))
  exact xT_in 403 (by rfl) rfl⟩
set_option maxRecDepth 100000 in
theorem xlX1_78 : (22 = 0 → Cond.methodLink KX1.1 78 Lib.Math.min.name ∈ xTs ∧ Cond.static Lib.Math.min.name ∈ xTs ∧ Cond.initialized "java/lang/Math" ∈ xTs ∧ Cond.code Lib.Math.min.name Lib.Math.min.code 2 (some .int) ∈ xTs) ∧ (22 ≠ 0 → ∀ M, xnth xMs 22 = some M → Cond.methodLink KX1.1 78 M.1 ∈ xTs) := ⟨fun h => absurd h (by decide), fun _ M h => by
  obtain rfl : M = mX1_wear := Option.some.inj (h.symm.trans (by rfl))
  exact xT_in 404 (by rfl) rfl⟩
set_option maxRecDepth 100000 in
theorem xlX1_82 : (0 = 0 → Cond.methodLink KX1.1 82 Lib.Math.min.name ∈ xTs ∧ Cond.static Lib.Math.min.name ∈ xTs ∧ Cond.initialized "java/lang/Math" ∈ xTs ∧ Cond.code Lib.Math.min.name Lib.Math.min.code 2 (some .int) ∈ xTs) ∧ (0 ≠ 0 → ∀ M, xnth xMs 0 = some M → Cond.methodLink KX1.1 82 M.1 ∈ xTs) := ⟨fun _ => ⟨xT_in 408 (by rfl) rfl, xT_in 409 (by rfl) rfl, xT_in 58 (by rfl) rfl, xT_in 410 (by rfl) rfl⟩, fun h => absurd rfl h⟩
set_option maxRecDepth 100000 in
theorem okX1 : xCOk xTs xnl xMs KX1 := ⟨List.forall_mem_cons.mpr ⟨xfX1_9, List.forall_mem_cons.mpr ⟨xfX1_15, List.forall_mem_cons.mpr ⟨xfX1_18, List.forall_mem_cons.mpr ⟨xfX1_21, List.forall_mem_cons.mpr ⟨xfX1_24, List.forall_mem_cons.mpr ⟨xfX1_27, List.forall_mem_cons.mpr ⟨xfX1_34, List.forall_mem_cons.mpr ⟨xfX1_37, List.forall_mem_cons.mpr ⟨xfX1_30, fun _ h => absurd h List.not_mem_nil⟩⟩⟩⟩⟩⟩⟩⟩⟩, List.forall_mem_cons.mpr ⟨xT_in 333 (by rfl) rfl, fun _ h => absurd h List.not_mem_nil⟩, fun _ h => absurd h List.not_mem_nil, List.forall_mem_cons.mpr ⟨xlX1_53, List.forall_mem_cons.mpr ⟨xlX1_56, List.forall_mem_cons.mpr ⟨xlX1_59, List.forall_mem_cons.mpr ⟨xlX1_64, List.forall_mem_cons.mpr ⟨xlX1_68, List.forall_mem_cons.mpr ⟨xlX1_71, List.forall_mem_cons.mpr ⟨xlX1_50, List.forall_mem_cons.mpr ⟨xlX1_40, List.forall_mem_cons.mpr ⟨xlX1_44, List.forall_mem_cons.mpr ⟨xlX1_75, List.forall_mem_cons.mpr ⟨xlX1_78, List.forall_mem_cons.mpr ⟨xlX1_82, fun _ h => absurd h List.not_mem_nil⟩⟩⟩⟩⟩⟩⟩⟩⟩⟩⟩⟩⟩
set_option maxRecDepth 100000 in
theorem xfX2_11 : xFOk xTs xnl KX2.1 11 1 0 2 := ⟨RX2, TX2, 2, tyX2, rfl, by decide, xlayX2, tyX2_ok, nmX2, Or.inl (xT_in 116 (by rfl) rfl), fun h => absurd h (by decide), fun h => absurd h (by decide)⟩
set_option maxRecDepth 100000 in
theorem xfX2_15 : xFOk xTs xnl KX2.1 15 1 1 0 := ⟨RX2, TX2, 2, tyX2, rfl, by decide, xlayX2, tyX2_ok, nmX2, Or.inl (xT_in 117 (by rfl) rfl), fun _ => ⟨rfl, rfl⟩, fun h => absurd h (by decide)⟩
set_option maxRecDepth 100000 in
theorem xlX2_19 : (28 = 0 → Cond.methodLink KX2.1 19 Lib.Math.min.name ∈ xTs ∧ Cond.static Lib.Math.min.name ∈ xTs ∧ Cond.initialized "java/lang/Math" ∈ xTs ∧ Cond.code Lib.Math.min.name Lib.Math.min.code 2 (some .int) ∈ xTs) ∧ (28 ≠ 0 → ∀ M, xnth xMs 28 = some M → Cond.methodLink KX2.1 19 M.1 ∈ xTs) := ⟨fun h => absurd h (by decide), fun _ M h => by
  obtain rfl : M = mX2_isFull := Option.some.inj (h.symm.trans (by rfl))
  exact xT_in 234 (by rfl) rfl⟩
set_option maxRecDepth 100000 in
theorem xlX2_23 : (33 = 0 → Cond.methodLink KX2.1 23 Lib.Math.min.name ∈ xTs ∧ Cond.static Lib.Math.min.name ∈ xTs ∧ Cond.initialized "java/lang/Math" ∈ xTs ∧ Cond.code Lib.Math.min.name Lib.Math.min.code 2 (some .int) ∈ xTs) ∧ (33 ≠ 0 → ∀ M, xnth xMs 33 = some M → Cond.methodLink KX2.1 23 M.1 ∈ xTs) := ⟨fun h => absurd h (by decide), fun _ M h => by
  obtain rfl : M = mX2_stateBehind := Option.some.inj (h.symm.trans (by rfl))
  exact xT_in 243 (by rfl) rfl⟩
set_option maxRecDepth 100000 in
theorem xlX2_27 : (31 = 0 → Cond.methodLink KX2.1 27 Lib.Math.min.name ∈ xTs ∧ Cond.static Lib.Math.min.name ∈ xTs ∧ Cond.initialized "java/lang/Math" ∈ xTs ∧ Cond.code Lib.Math.min.name Lib.Math.min.code 2 (some .int) ∈ xTs) ∧ (31 ≠ 0 → ∀ M, xnth xMs 31 = some M → Cond.methodLink KX2.1 27 M.1 ∈ xTs) := ⟨fun h => absurd h (by decide), fun _ M h => by
  obtain rfl : M = mX2_stateOpened := Option.some.inj (h.symm.trans (by rfl))
  exact xT_in 246 (by rfl) rfl⟩
set_option maxRecDepth 100000 in
theorem xlX2_31 : (32 = 0 → Cond.methodLink KX2.1 31 Lib.Math.min.name ∈ xTs ∧ Cond.static Lib.Math.min.name ∈ xTs ∧ Cond.initialized "java/lang/Math" ∈ xTs ∧ Cond.code Lib.Math.min.name Lib.Math.min.code 2 (some .int) ∈ xTs) ∧ (32 ≠ 0 → ∀ M, xnth xMs 32 = some M → Cond.methodLink KX2.1 31 M.1 ∈ xTs) := ⟨fun h => absurd h (by decide), fun _ M h => by
  obtain rfl : M = mX2_isDigit := Option.some.inj (h.symm.trans (by rfl))
  exact xT_in 249 (by rfl) rfl⟩
set_option maxRecDepth 100000 in
theorem xlX2_35 : (39 = 0 → Cond.methodLink KX2.1 35 Lib.Math.min.name ∈ xTs ∧ Cond.static Lib.Math.min.name ∈ xTs ∧ Cond.initialized "java/lang/Math" ∈ xTs ∧ Cond.code Lib.Math.min.name Lib.Math.min.code 2 (some .int) ∈ xTs) ∧ (39 ≠ 0 → ∀ M, xnth xMs 39 = some M → Cond.methodLink KX2.1 35 M.1 ∈ xTs) := ⟨fun h => absurd h (by decide), fun _ M h => by
  obtain rfl : M = mX2_statementComes := Option.some.inj (h.symm.trans (by rfl))
  exact xT_in 260 (by rfl) rfl⟩
set_option maxRecDepth 100000 in
theorem xlX2_39 : (35 = 0 → Cond.methodLink KX2.1 39 Lib.Math.min.name ∈ xTs ∧ Cond.static Lib.Math.min.name ∈ xTs ∧ Cond.initialized "java/lang/Math" ∈ xTs ∧ Cond.code Lib.Math.min.name Lib.Math.min.code 2 (some .int) ∈ xTs) ∧ (35 ≠ 0 → ∀ M, xnth xMs 35 = some M → Cond.methodLink KX2.1 39 M.1 ∈ xTs) := ⟨fun h => absurd h (by decide), fun _ M h => by
  obtain rfl : M = mX2_signAt := Option.some.inj (h.symm.trans (by rfl))
  exact xT_in 264 (by rfl) rfl⟩
set_option maxRecDepth 100000 in
theorem xlX2_42 : (37 = 0 → Cond.methodLink KX2.1 42 Lib.Math.min.name ∈ xTs ∧ Cond.static Lib.Math.min.name ∈ xTs ∧ Cond.initialized "java/lang/Math" ∈ xTs ∧ Cond.code Lib.Math.min.name Lib.Math.min.code 2 (some .int) ∈ xTs) ∧ (37 ≠ 0 → ∀ M, xnth xMs 37 = some M → Cond.methodLink KX2.1 42 M.1 ∈ xTs) := ⟨fun h => absurd h (by decide), fun _ M h => by
  obtain rfl : M = mX2_number := Option.some.inj (h.symm.trans (by rfl))
  exact xT_in 268 (by rfl) rfl⟩
set_option maxRecDepth 100000 in
theorem xlX2_45 : (36 = 0 → Cond.methodLink KX2.1 45 Lib.Math.min.name ∈ xTs ∧ Cond.static Lib.Math.min.name ∈ xTs ∧ Cond.initialized "java/lang/Math" ∈ xTs ∧ Cond.code Lib.Math.min.name Lib.Math.min.code 2 (some .int) ∈ xTs) ∧ (36 ≠ 0 → ∀ M, xnth xMs 36 = some M → Cond.methodLink KX2.1 45 M.1 ∈ xTs) := ⟨fun h => absurd h (by decide), fun _ M h => by
  obtain rfl : M = mX2_digit := Option.some.inj (h.symm.trans (by rfl))
  exact xT_in 272 (by rfl) rfl⟩
set_option maxRecDepth 100000 in
theorem xlX2_48 : (38 = 0 → Cond.methodLink KX2.1 48 Lib.Math.min.name ∈ xTs ∧ Cond.static Lib.Math.min.name ∈ xTs ∧ Cond.initialized "java/lang/Math" ∈ xTs ∧ Cond.code Lib.Math.min.name Lib.Math.min.code 2 (some .int) ∈ xTs) ∧ (38 ≠ 0 → ∀ M, xnth xMs 38 = some M → Cond.methodLink KX2.1 48 M.1 ∈ xTs) := ⟨fun h => absurd h (by decide), fun _ M h => by
  obtain rfl : M = mX2_pictureBefore := Option.some.inj (h.symm.trans (by rfl))
  exact xT_in 276 (by rfl) rfl⟩
set_option maxRecDepth 100000 in
theorem xlX2_51 : (7 = 0 → Cond.methodLink KX2.1 51 Lib.Math.min.name ∈ xTs ∧ Cond.static Lib.Math.min.name ∈ xTs ∧ Cond.initialized "java/lang/Math" ∈ xTs ∧ Cond.code Lib.Math.min.name Lib.Math.min.code 2 (some .int) ∈ xTs) ∧ (7 ≠ 0 → ∀ M, xnth xMs 7 = some M → Cond.methodLink KX2.1 51 M.1 ∈ xTs) := ⟨fun h => absurd h (by decide), fun _ M h => by
  obtain rfl : M = mX1_addsSlide := Option.some.inj (h.symm.trans (by rfl))
  exact xT_in 280 (by rfl) rfl⟩
set_option maxRecDepth 100000 in
theorem xlX2_57 : (8 = 0 → Cond.methodLink KX2.1 57 Lib.Math.min.name ∈ xTs ∧ Cond.static Lib.Math.min.name ∈ xTs ∧ Cond.initialized "java/lang/Math" ∈ xTs ∧ Cond.code Lib.Math.min.name Lib.Math.min.code 2 (some .int) ∈ xTs) ∧ (8 ≠ 0 → ∀ M, xnth xMs 8 = some M → Cond.methodLink KX2.1 57 M.1 ∈ xTs) := ⟨fun h => absurd h (by decide), fun _ M h => by
  obtain rfl : M = mX1_addsWanted := Option.some.inj (h.symm.trans (by rfl))
  exact xT_in 284 (by rfl) rfl⟩
set_option maxRecDepth 100000 in
theorem xlX2_60 : (9 = 0 → Cond.methodLink KX2.1 60 Lib.Math.min.name ∈ xTs ∧ Cond.static Lib.Math.min.name ∈ xTs ∧ Cond.initialized "java/lang/Math" ∈ xTs ∧ Cond.code Lib.Math.min.name Lib.Math.min.code 2 (some .int) ∈ xTs) ∧ (9 ≠ 0 → ∀ M, xnth xMs 9 = some M → Cond.methodLink KX2.1 60 M.1 ∈ xTs) := ⟨fun h => absurd h (by decide), fun _ M h => by
  obtain rfl : M = mX1_heats := Option.some.inj (h.symm.trans (by rfl))
  exact xT_in 288 (by rfl) rfl⟩
set_option maxRecDepth 100000 in
theorem okX2 : xCOk xTs xnl xMs KX2 := ⟨List.forall_mem_cons.mpr ⟨xfX2_11, List.forall_mem_cons.mpr ⟨xfX2_15, fun _ h => absurd h List.not_mem_nil⟩⟩, fun _ h => absurd h List.not_mem_nil, fun _ h => absurd h List.not_mem_nil, List.forall_mem_cons.mpr ⟨xlX2_19, List.forall_mem_cons.mpr ⟨xlX2_23, List.forall_mem_cons.mpr ⟨xlX2_27, List.forall_mem_cons.mpr ⟨xlX2_31, List.forall_mem_cons.mpr ⟨xlX2_35, List.forall_mem_cons.mpr ⟨xlX2_39, List.forall_mem_cons.mpr ⟨xlX2_42, List.forall_mem_cons.mpr ⟨xlX2_45, List.forall_mem_cons.mpr ⟨xlX2_48, List.forall_mem_cons.mpr ⟨xlX2_51, List.forall_mem_cons.mpr ⟨xlX2_57, List.forall_mem_cons.mpr ⟨xlX2_60, fun _ h => absurd h List.not_mem_nil⟩⟩⟩⟩⟩⟩⟩⟩⟩⟩⟩⟩⟩
set_option maxRecDepth 100000 in
theorem xfX3_96 : xFOk xTs xnl KX3.1 96 0 3 2 := ⟨RX1, TX1, 9, tyX1, rfl, by decide, xlayX1, tyX1_ok, nmX1, Or.inr ⟨_, List.mem_of_getElem? (i := 0) (by rfl)⟩, fun h => absurd h (by decide), fun h => absurd h (by decide)⟩
set_option maxRecDepth 100000 in
theorem xfX3_73 : xFOk xTs xnl KX3.1 73 0 6 0 := ⟨RX1, TX1, 9, tyX1, rfl, by decide, xlayX1, tyX1_ok, nmX1, Or.inr ⟨_, List.mem_of_getElem? (i := 2) (by rfl)⟩, fun _ => ⟨rfl, rfl⟩, fun h => absurd h (by decide)⟩
set_option maxRecDepth 100000 in
theorem xfX3_57 : xFOk xTs xnl KX3.1 57 0 7 0 := ⟨RX1, TX1, 9, tyX1, rfl, by decide, xlayX1, tyX1_ok, nmX1, Or.inr ⟨_, List.mem_of_getElem? (i := 5) (by rfl)⟩, fun _ => ⟨rfl, rfl⟩, fun h => absurd h (by decide)⟩
set_option maxRecDepth 100000 in
theorem xfX3_9 : xFOk xTs xnl KX3.1 9 2 0 2 := ⟨RX3, TX3, 11, tyX3, rfl, by decide, xlayX3, tyX3_ok, nmX3, Or.inl (xT_in 130 (by rfl) rfl), fun h => absurd h (by decide), fun h => absurd h (by decide)⟩
set_option maxRecDepth 100000 in
theorem xfX3_15 : xFOk xTs xnl KX3.1 15 2 1 2 := ⟨RX3, TX3, 11, tyX3, rfl, by decide, xlayX3, tyX3_ok, nmX3, Or.inl (xT_in 131 (by rfl) rfl), fun h => absurd h (by decide), fun h => absurd h (by decide)⟩
set_option maxRecDepth 100000 in
theorem xfX3_18 : xFOk xTs xnl KX3.1 18 2 2 2 := ⟨RX3, TX3, 11, tyX3, rfl, by decide, xlayX3, tyX3_ok, nmX3, Or.inl (xT_in 132 (by rfl) rfl), fun h => absurd h (by decide), fun h => absurd h (by decide)⟩
set_option maxRecDepth 100000 in
theorem xfX3_21 : xFOk xTs xnl KX3.1 21 2 3 2 := ⟨RX3, TX3, 11, tyX3, rfl, by decide, xlayX3, tyX3_ok, nmX3, Or.inl (xT_in 133 (by rfl) rfl), fun h => absurd h (by decide), fun h => absurd h (by decide)⟩
set_option maxRecDepth 100000 in
theorem xfX3_82 : xFOk xTs xnl KX3.1 82 2 4 0 := ⟨RX3, TX3, 11, tyX3, rfl, by decide, xlayX3, tyX3_ok, nmX3, Or.inl (xT_in 134 (by rfl) rfl), fun _ => ⟨rfl, rfl⟩, fun h => absurd h (by decide)⟩
set_option maxRecDepth 100000 in
theorem xfX3_70 : xFOk xTs xnl KX3.1 70 2 5 0 := ⟨RX3, TX3, 11, tyX3, rfl, by decide, xlayX3, tyX3_ok, nmX3, Or.inl (xT_in 135 (by rfl) rfl), fun _ => ⟨rfl, rfl⟩, fun h => absurd h (by decide)⟩
set_option maxRecDepth 100000 in
theorem xfX3_45 : xFOk xTs xnl KX3.1 45 2 6 0 := ⟨RX3, TX3, 11, tyX3, rfl, by decide, xlayX3, tyX3_ok, nmX3, Or.inl (xT_in 136 (by rfl) rfl), fun _ => ⟨rfl, rfl⟩, fun h => absurd h (by decide)⟩
set_option maxRecDepth 100000 in
theorem xfX3_28 : xFOk xTs xnl KX3.1 28 2 7 0 := ⟨RX3, TX3, 11, tyX3, rfl, by decide, xlayX3, tyX3_ok, nmX3, Or.inl (xT_in 137 (by rfl) rfl), fun _ => ⟨rfl, rfl⟩, fun h => absurd h (by decide)⟩
set_option maxRecDepth 100000 in
theorem xfX3_32 : xFOk xTs xnl KX3.1 32 2 8 0 := ⟨RX3, TX3, 11, tyX3, rfl, by decide, xlayX3, tyX3_ok, nmX3, Or.inl (xT_in 139 (by rfl) rfl), fun _ => ⟨rfl, rfl⟩, fun h => absurd h (by decide)⟩
set_option maxRecDepth 100000 in
theorem xfX3_35 : xFOk xTs xnl KX3.1 35 2 9 0 := ⟨RX3, TX3, 11, tyX3, rfl, by decide, xlayX3, tyX3_ok, nmX3, Or.inl (xT_in 141 (by rfl) rfl), fun _ => ⟨rfl, rfl⟩, fun h => absurd h (by decide)⟩
set_option maxRecDepth 100000 in
theorem xfX3_38 : xFOk xTs xnl KX3.1 38 2 10 0 := ⟨RX3, TX3, 11, tyX3, rfl, by decide, xlayX3, tyX3_ok, nmX3, Or.inl (xT_in 143 (by rfl) rfl), fun _ => ⟨rfl, rfl⟩, fun h => absurd h (by decide)⟩
set_option maxRecDepth 100000 in
theorem xlX3_24 : (43 = 0 → Cond.methodLink KX3.1 24 Lib.Math.min.name ∈ xTs ∧ Cond.static Lib.Math.min.name ∈ xTs ∧ Cond.initialized "java/lang/Math" ∈ xTs ∧ Cond.code Lib.Math.min.name Lib.Math.min.code 2 (some .int) ∈ xTs) ∧ (43 ≠ 0 → ∀ M, xnth xMs 43 = some M → Cond.methodLink KX3.1 24 M.1 ∈ xTs) := ⟨fun h => absurd h (by decide), fun _ M h => by
  obtain rfl : M = mX3_load := Option.some.inj (h.symm.trans (by rfl))
  exact xT_in 442 (by rfl) rfl⟩
set_option maxRecDepth 100000 in
theorem xlX3_76 : (0 = 0 → Cond.methodLink KX3.1 76 Lib.Math.min.name ∈ xTs ∧ Cond.static Lib.Math.min.name ∈ xTs ∧ Cond.initialized "java/lang/Math" ∈ xTs ∧ Cond.code Lib.Math.min.name Lib.Math.min.code 2 (some .int) ∈ xTs) ∧ (0 ≠ 0 → ∀ M, xnth xMs 0 = some M → Cond.methodLink KX3.1 76 M.1 ∈ xTs) := ⟨fun _ => ⟨xT_in 446 (by rfl) rfl, xT_in 409 (by rfl) rfl, xT_in 58 (by rfl) rfl, xT_in 410 (by rfl) rfl⟩, fun h => absurd rfl h⟩
set_option maxRecDepth 100000 in
theorem xlX3_85 : (18 = 0 → Cond.methodLink KX3.1 85 Lib.Math.min.name ∈ xTs ∧ Cond.static Lib.Math.min.name ∈ xTs ∧ Cond.initialized "java/lang/Math" ∈ xTs ∧ Cond.code Lib.Math.min.name Lib.Math.min.code 2 (some .int) ∈ xTs) ∧ (18 ≠ 0 → ∀ M, xnth xMs 18 = some M → Cond.methodLink KX3.1 85 M.1 ∈ xTs) := ⟨fun h => absurd h (by decide), fun _ M h => by
  obtain rfl : M = mX1_onSlide := Option.some.inj (h.symm.trans (by rfl))
  exact xT_in 447 (by rfl) rfl⟩
set_option maxRecDepth 100000 in
theorem xlX3_88 : (41 = 0 → Cond.methodLink KX3.1 88 Lib.Math.min.name ∈ xTs ∧ Cond.static Lib.Math.min.name ∈ xTs ∧ Cond.initialized "java/lang/Math" ∈ xTs ∧ Cond.code Lib.Math.min.name Lib.Math.min.code 2 (some .int) ∈ xTs) ∧ (41 ≠ 0 → ∀ M, xnth xMs 41 = some M → Cond.methodLink KX3.1 88 M.1 ∈ xTs) := ⟨fun h => absurd h (by decide), fun _ M h => by
  obtain rfl : M = mX3_usable := Option.some.inj (h.symm.trans (by rfl))
  exact xT_in 448 (by rfl) rfl⟩
set_option maxRecDepth 100000 in
theorem xlX3_91 : (1 = 0 → Cond.methodLink KX3.1 91 Lib.Math.min.name ∈ xTs ∧ Cond.static Lib.Math.min.name ∈ xTs ∧ Cond.initialized "java/lang/Math" ∈ xTs ∧ Cond.code Lib.Math.min.name Lib.Math.min.code 2 (some .int) ∈ xTs) ∧ (1 ≠ 0 → ∀ M, xnth xMs 1 = some M → Cond.methodLink KX3.1 91 M.1 ∈ xTs) := ⟨fun h => absurd h (by decide), fun _ M h => by
  obtain rfl : M = mX0_mirrored := Option.some.inj (h.symm.trans (by rfl))
  exact xT_in 451 (by rfl) rfl⟩
set_option maxRecDepth 100000 in
theorem xlX3_99 : (42 = 0 → Cond.methodLink KX3.1 99 Lib.Math.min.name ∈ xTs ∧ Cond.static Lib.Math.min.name ∈ xTs ∧ Cond.initialized "java/lang/Math" ∈ xTs ∧ Cond.code Lib.Math.min.name Lib.Math.min.code 2 (some .int) ∈ xTs) ∧ (42 ≠ 0 → ∀ M, xnth xMs 42 = some M → Cond.methodLink KX3.1 99 M.1 ∈ xTs) := ⟨fun h => absurd h (by decide), fun _ M h => by
  obtain rfl : M = mX3_dark := Option.some.inj (h.symm.trans (by rfl))
  exact xT_in 452 (by rfl) rfl⟩
set_option maxRecDepth 100000 in
theorem xlX3_41 : (46 = 0 → Cond.methodLink KX3.1 41 Lib.Math.min.name ∈ xTs ∧ Cond.static Lib.Math.min.name ∈ xTs ∧ Cond.initialized "java/lang/Math" ∈ xTs ∧ Cond.code Lib.Math.min.name Lib.Math.min.code 2 (some .int) ∈ xTs) ∧ (46 ≠ 0 → ∀ M, xnth xMs 46 = some M → Cond.methodLink KX3.1 41 M.1 ∈ xTs) := ⟨fun h => absurd h (by decide), fun _ M h => by
  obtain rfl : M = mX3_seekFewest := Option.some.inj (h.symm.trans (by rfl))
  exact xT_in 455 (by rfl) rfl⟩
set_option maxRecDepth 100000 in
theorem xlX3_102 : (44 = 0 → Cond.methodLink KX3.1 102 Lib.Math.min.name ∈ xTs ∧ Cond.static Lib.Math.min.name ∈ xTs ∧ Cond.initialized "java/lang/Math" ∈ xTs ∧ Cond.code Lib.Math.min.name Lib.Math.min.code 2 (some .int) ∈ xTs) ∧ (44 ≠ 0 → ∀ M, xnth xMs 44 = some M → Cond.methodLink KX3.1 102 M.1 ∈ xTs) := ⟨fun h => absurd h (by decide), fun _ M h => by
  obtain rfl : M = mX3_isOutOfReach := Option.some.inj (h.symm.trans (by rfl))
  exact xT_in 459 (by rfl) rfl⟩
set_option maxRecDepth 100000 in
theorem xlX3_105 : (13 = 0 → Cond.methodLink KX3.1 105 Lib.Math.min.name ∈ xTs ∧ Cond.static Lib.Math.min.name ∈ xTs ∧ Cond.initialized "java/lang/Math" ∈ xTs ∧ Cond.code Lib.Math.min.name Lib.Math.min.code 2 (some .int) ∈ xTs) ∧ (13 ≠ 0 → ∀ M, xnth xMs 13 = some M → Cond.methodLink KX3.1 105 M.1 ∈ xTs) := ⟨fun h => absurd h (by decide), fun _ M h => by
  obtain rfl : M = mJ6_bitCount_0f7a4 := Option.some.inj (h.symm.trans (by rfl))
  exact xT_in 463 (by rfl) rfl⟩
set_option maxRecDepth 100000 in
theorem xlX3_110 : (45 = 0 → Cond.methodLink KX3.1 110 Lib.Math.min.name ∈ xTs ∧ Cond.static Lib.Math.min.name ∈ xTs ∧ Cond.initialized "java/lang/Math" ∈ xTs ∧ Cond.code Lib.Math.min.name Lib.Math.min.code 2 (some .int) ∈ xTs) ∧ (45 ≠ 0 → ∀ M, xnth xMs 45 = some M → Cond.methodLink KX3.1 110 M.1 ∈ xTs) := ⟨fun h => absurd h (by decide), fun _ M h => by
  obtain rfl : M = mX3_noteFewest := Option.some.inj (h.symm.trans (by rfl))
  exact xT_in 464 (by rfl) rfl⟩
set_option maxRecDepth 100000 in
theorem xlX3_48 : (48 = 0 → Cond.methodLink KX3.1 48 Lib.Math.min.name ∈ xTs ∧ Cond.static Lib.Math.min.name ∈ xTs ∧ Cond.initialized "java/lang/Math" ∈ xTs ∧ Cond.code Lib.Math.min.name Lib.Math.min.code 2 (some .int) ∈ xTs) ∧ (48 ≠ 0 → ∀ M, xnth xMs 48 = some M → Cond.methodLink KX3.1 48 M.1 ∈ xTs) := ⟨fun h => absurd h (by decide), fun _ M h => by
  obtain rfl : M = mX3_seekCheapest := Option.some.inj (h.symm.trans (by rfl))
  exact xT_in 476 (by rfl) rfl⟩
set_option maxRecDepth 100000 in
theorem xlX3_53 : (50 = 0 → Cond.methodLink KX3.1 53 Lib.Math.min.name ∈ xTs ∧ Cond.static Lib.Math.min.name ∈ xTs ∧ Cond.initialized "java/lang/Math" ∈ xTs ∧ Cond.code Lib.Math.min.name Lib.Math.min.code 2 (some .int) ∈ xTs) ∧ (50 ≠ 0 → ∀ M, xnth xMs 50 = some M → Cond.methodLink KX3.1 53 M.1 ∈ xTs) := ⟨fun h => absurd h (by decide), fun _ M h => by
  obtain rfl : M = mX3_seekNear := Option.some.inj (h.symm.trans (by rfl))
  exact xT_in 489 (by rfl) rfl⟩
set_option maxRecDepth 100000 in
theorem xlX3_62 : (16 = 0 → Cond.methodLink KX3.1 62 Lib.Math.min.name ∈ xTs ∧ Cond.static Lib.Math.min.name ∈ xTs ∧ Cond.initialized "java/lang/Math" ∈ xTs ∧ Cond.code Lib.Math.min.name Lib.Math.min.code 2 (some .int) ∈ xTs) ∧ (16 ≠ 0 → ∀ M, xnth xMs 16 = some M → Cond.methodLink KX3.1 62 M.1 ∈ xTs) := ⟨fun h => absurd h (by decide), fun _ M h => by
  obtain rfl : M = mX1_wantedPicture := Option.some.inj (h.symm.trans (by rfl))
  exact xT_in 501 (by rfl) rfl⟩
set_option maxRecDepth 100000 in
theorem xlX3_66 : (52 = 0 → Cond.methodLink KX3.1 66 Lib.Math.min.name ∈ xTs ∧ Cond.static Lib.Math.min.name ∈ xTs ∧ Cond.initialized "java/lang/Math" ∈ xTs ∧ Cond.code Lib.Math.min.name Lib.Math.min.code 2 (some .int) ∈ xTs) ∧ (52 ≠ 0 → ∀ M, xnth xMs 52 = some M → Cond.methodLink KX3.1 66 M.1 ∈ xTs) := ⟨fun h => absurd h (by decide), fun _ M h => by
  obtain rfl : M = mX3_isShown := Option.some.inj (h.symm.trans (by rfl))
  exact xT_in 502 (by rfl) rfl⟩
set_option maxRecDepth 100000 in
theorem okX3 : xCOk xTs xnl xMs KX3 := ⟨List.forall_mem_cons.mpr ⟨xfX3_96, List.forall_mem_cons.mpr ⟨xfX3_73, List.forall_mem_cons.mpr ⟨xfX3_57, List.forall_mem_cons.mpr ⟨xfX3_9, List.forall_mem_cons.mpr ⟨xfX3_15, List.forall_mem_cons.mpr ⟨xfX3_18, List.forall_mem_cons.mpr ⟨xfX3_21, List.forall_mem_cons.mpr ⟨xfX3_82, List.forall_mem_cons.mpr ⟨xfX3_70, List.forall_mem_cons.mpr ⟨xfX3_45, List.forall_mem_cons.mpr ⟨xfX3_28, List.forall_mem_cons.mpr ⟨xfX3_32, List.forall_mem_cons.mpr ⟨xfX3_35, List.forall_mem_cons.mpr ⟨xfX3_38, fun _ h => absurd h List.not_mem_nil⟩⟩⟩⟩⟩⟩⟩⟩⟩⟩⟩⟩⟩⟩, List.forall_mem_cons.mpr ⟨xT_in 488 (by rfl) rfl, fun _ h => absurd h List.not_mem_nil⟩, fun _ h => absurd h List.not_mem_nil, List.forall_mem_cons.mpr ⟨xlX3_24, List.forall_mem_cons.mpr ⟨xlX3_76, List.forall_mem_cons.mpr ⟨xlX3_85, List.forall_mem_cons.mpr ⟨xlX3_88, List.forall_mem_cons.mpr ⟨xlX3_91, List.forall_mem_cons.mpr ⟨xlX3_99, List.forall_mem_cons.mpr ⟨xlX3_41, List.forall_mem_cons.mpr ⟨xlX3_102, List.forall_mem_cons.mpr ⟨xlX3_105, List.forall_mem_cons.mpr ⟨xlX3_110, List.forall_mem_cons.mpr ⟨xlX3_48, List.forall_mem_cons.mpr ⟨xlX3_53, List.forall_mem_cons.mpr ⟨xlX3_62, List.forall_mem_cons.mpr ⟨xlX3_66, fun _ h => absurd h List.not_mem_nil⟩⟩⟩⟩⟩⟩⟩⟩⟩⟩⟩⟩⟩⟩⟩
set_option maxRecDepth 100000 in
theorem xfX4_21 : xFOk xTs xnl KX4.1 21 0 6 0 := ⟨RX1, TX1, 9, tyX1, rfl, by decide, xlayX1, tyX1_ok, nmX1, Or.inr ⟨_, List.mem_of_getElem? (i := 1) (by rfl)⟩, fun _ => ⟨rfl, rfl⟩, fun h => absurd h (by decide)⟩
set_option maxRecDepth 100000 in
theorem xfX4_61 : xFOk xTs xnl KX4.1 61 0 7 0 := ⟨RX1, TX1, 9, tyX1, rfl, by decide, xlayX1, tyX1_ok, nmX1, Or.inr ⟨_, List.mem_of_getElem? (i := 4) (by rfl)⟩, fun _ => ⟨rfl, rfl⟩, fun h => absurd h (by decide)⟩
set_option maxRecDepth 100000 in
theorem xfX4_11 : xFOk xTs xnl KX4.1 11 3 0 2 := ⟨RX4, TX4, 3, tyX4, rfl, by decide, xlayX4, tyX4_ok, nmX4, Or.inl (xT_in 174 (by rfl) rfl), fun h => absurd h (by decide), fun h => absurd h (by decide)⟩
set_option maxRecDepth 100000 in
theorem xfX4_15 : xFOk xTs xnl KX4.1 15 3 1 2 := ⟨RX4, TX4, 3, tyX4, rfl, by decide, xlayX4, tyX4_ok, nmX4, Or.inl (xT_in 175 (by rfl) rfl), fun h => absurd h (by decide), fun h => absurd h (by decide)⟩
set_option maxRecDepth 100000 in
theorem xfX4_18 : xFOk xTs xnl KX4.1 18 3 2 2 := ⟨RX4, TX4, 3, tyX4, rfl, by decide, xlayX4, tyX4_ok, nmX4, Or.inl (xT_in 176 (by rfl) rfl), fun h => absurd h (by decide), fun h => absurd h (by decide)⟩
set_option maxRecDepth 100000 in
theorem xlX4_27 : (0 = 0 → Cond.methodLink KX4.1 27 Lib.Math.min.name ∈ xTs ∧ Cond.static Lib.Math.min.name ∈ xTs ∧ Cond.initialized "java/lang/Math" ∈ xTs ∧ Cond.code Lib.Math.min.name Lib.Math.min.code 2 (some .int) ∈ xTs) ∧ (0 ≠ 0 → ∀ M, xnth xMs 0 = some M → Cond.methodLink KX4.1 27 M.1 ∈ xTs) := ⟨fun _ => ⟨xT_in 538 (by rfl) rfl, xT_in 409 (by rfl) rfl, xT_in 58 (by rfl) rfl, xT_in 410 (by rfl) rfl⟩, fun h => absurd rfl h⟩
set_option maxRecDepth 100000 in
theorem xlX4_33 : (54 = 0 → Cond.methodLink KX4.1 33 Lib.Math.min.name ∈ xTs ∧ Cond.static Lib.Math.min.name ∈ xTs ∧ Cond.initialized "java/lang/Math" ∈ xTs ∧ Cond.code Lib.Math.min.name Lib.Math.min.code 2 (some .int) ∈ xTs) ∧ (54 ≠ 0 → ∀ M, xnth xMs 54 = some M → Cond.methodLink KX4.1 33 M.1 ∈ xTs) := ⟨fun h => absurd h (by decide), fun _ M h => by
  obtain rfl : M = mX4_layAll := Option.some.inj (h.symm.trans (by rfl))
  exact xT_in 539 (by rfl) rfl⟩
set_option maxRecDepth 100000 in
theorem xlX4_58 : (18 = 0 → Cond.methodLink KX4.1 58 Lib.Math.min.name ∈ xTs ∧ Cond.static Lib.Math.min.name ∈ xTs ∧ Cond.initialized "java/lang/Math" ∈ xTs ∧ Cond.code Lib.Math.min.name Lib.Math.min.code 2 (some .int) ∈ xTs) ∧ (18 ≠ 0 → ∀ M, xnth xMs 18 = some M → Cond.methodLink KX4.1 58 M.1 ∈ xTs) := ⟨fun h => absurd h (by decide), fun _ M h => by
  obtain rfl : M = mX1_onSlide := Option.some.inj (h.symm.trans (by rfl))
  exact xT_in 543 (by rfl) rfl⟩
set_option maxRecDepth 100000 in
theorem xlX4_37 : (56 = 0 → Cond.methodLink KX4.1 37 Lib.Math.min.name ∈ xTs ∧ Cond.static Lib.Math.min.name ∈ xTs ∧ Cond.initialized "java/lang/Math" ∈ xTs ∧ Cond.code Lib.Math.min.name Lib.Math.min.code 2 (some .int) ∈ xTs) ∧ (56 ≠ 0 → ∀ M, xnth xMs 56 = some M → Cond.methodLink KX4.1 37 M.1 ∈ xTs) := ⟨fun h => absurd h (by decide), fun _ M h => by
  obtain rfl : M = mX4_findStops := Option.some.inj (h.symm.trans (by rfl))
  exact xT_in 544 (by rfl) rfl⟩
set_option maxRecDepth 100000 in
theorem xlX4_64 : (16 = 0 → Cond.methodLink KX4.1 64 Lib.Math.min.name ∈ xTs ∧ Cond.static Lib.Math.min.name ∈ xTs ∧ Cond.initialized "java/lang/Math" ∈ xTs ∧ Cond.code Lib.Math.min.name Lib.Math.min.code 2 (some .int) ∈ xTs) ∧ (16 ≠ 0 → ∀ M, xnth xMs 16 = some M → Cond.methodLink KX4.1 64 M.1 ∈ xTs) := ⟨fun h => absurd h (by decide), fun _ M h => by
  obtain rfl : M = mX1_wantedPicture := Option.some.inj (h.symm.trans (by rfl))
  exact xT_in 548 (by rfl) rfl⟩
set_option maxRecDepth 100000 in
theorem xlX4_67 : (55 = 0 → Cond.methodLink KX4.1 67 Lib.Math.min.name ∈ xTs ∧ Cond.static Lib.Math.min.name ∈ xTs ∧ Cond.initialized "java/lang/Math" ∈ xTs ∧ Cond.code Lib.Math.min.name Lib.Math.min.code 2 (some .int) ∈ xTs) ∧ (55 ≠ 0 → ∀ M, xnth xMs 55 = some M → Cond.methodLink KX4.1 67 M.1 ∈ xTs) := ⟨fun h => absurd h (by decide), fun _ M h => by
  obtain rfl : M = mX4_isShownByOne := Option.some.inj (h.symm.trans (by rfl))
  exact xT_in 549 (by rfl) rfl⟩
set_option maxRecDepth 100000 in
theorem xlX4_41 : (13 = 0 → Cond.methodLink KX4.1 41 Lib.Math.min.name ∈ xTs ∧ Cond.static Lib.Math.min.name ∈ xTs ∧ Cond.initialized "java/lang/Math" ∈ xTs ∧ Cond.code Lib.Math.min.name Lib.Math.min.code 2 (some .int) ∈ xTs) ∧ (13 ≠ 0 → ∀ M, xnth xMs 13 = some M → Cond.methodLink KX4.1 41 M.1 ∈ xTs) := ⟨fun h => absurd h (by decide), fun _ M h => by
  obtain rfl : M = mJ6_bitCount_0f7a4 := Option.some.inj (h.symm.trans (by rfl))
  exact xT_in 553 (by rfl) rfl⟩
set_option maxRecDepth 100000 in
theorem xlX4_47 : (57 = 0 → Cond.methodLink KX4.1 47 Lib.Math.min.name ∈ xTs ∧ Cond.static Lib.Math.min.name ∈ xTs ∧ Cond.initialized "java/lang/Math" ∈ xTs ∧ Cond.code Lib.Math.min.name Lib.Math.min.code 2 (some .int) ∈ xTs) ∧ (57 ≠ 0 → ∀ M, xnth xMs 57 = some M → Cond.methodLink KX4.1 47 M.1 ∈ xTs) := ⟨fun h => absurd h (by decide), fun _ M h => by
  obtain rfl : M = mX4_arrive := Option.some.inj (h.symm.trans (by rfl))
  exact xT_in 554 (by rfl) rfl⟩
set_option maxRecDepth 100000 in
theorem xlX4_51 : (58 = 0 → Cond.methodLink KX4.1 51 Lib.Math.min.name ∈ xTs ∧ Cond.static Lib.Math.min.name ∈ xTs ∧ Cond.initialized "java/lang/Math" ∈ xTs ∧ Cond.code Lib.Math.min.name Lib.Math.min.code 2 (some .int) ∈ xTs) ∧ (58 ≠ 0 → ∀ M, xnth xMs 58 = some M → Cond.methodLink KX4.1 51 M.1 ∈ xTs) := ⟨fun h => absurd h (by decide), fun _ M h => by
  obtain rfl : M = mX4_walk := Option.some.inj (h.symm.trans (by rfl))
  exact xT_in 558 (by rfl) rfl⟩
set_option maxRecDepth 100000 in
theorem xlX4_55 : (59 = 0 → Cond.methodLink KX4.1 55 Lib.Math.min.name ∈ xTs ∧ Cond.static Lib.Math.min.name ∈ xTs ∧ Cond.initialized "java/lang/Math" ∈ xTs ∧ Cond.code Lib.Math.min.name Lib.Math.min.code 2 (some .int) ∈ xTs) ∧ (59 ≠ 0 → ∀ M, xnth xMs 59 = some M → Cond.methodLink KX4.1 55 M.1 ∈ xTs) := ⟨fun h => absurd h (by decide), fun _ M h => by
  obtain rfl : M = mX4_leastSteps := Option.some.inj (h.symm.trans (by rfl))
  exact xT_in 562 (by rfl) rfl⟩
set_option maxRecDepth 100000 in
theorem okX4 : xCOk xTs xnl xMs KX4 := ⟨List.forall_mem_cons.mpr ⟨xfX4_21, List.forall_mem_cons.mpr ⟨xfX4_61, List.forall_mem_cons.mpr ⟨xfX4_11, List.forall_mem_cons.mpr ⟨xfX4_15, List.forall_mem_cons.mpr ⟨xfX4_18, fun _ h => absurd h List.not_mem_nil⟩⟩⟩⟩⟩, fun _ h => absurd h List.not_mem_nil, fun _ h => absurd h List.not_mem_nil, List.forall_mem_cons.mpr ⟨xlX4_27, List.forall_mem_cons.mpr ⟨xlX4_33, List.forall_mem_cons.mpr ⟨xlX4_58, List.forall_mem_cons.mpr ⟨xlX4_37, List.forall_mem_cons.mpr ⟨xlX4_64, List.forall_mem_cons.mpr ⟨xlX4_67, List.forall_mem_cons.mpr ⟨xlX4_41, List.forall_mem_cons.mpr ⟨xlX4_47, List.forall_mem_cons.mpr ⟨xlX4_51, List.forall_mem_cons.mpr ⟨xlX4_55, fun _ h => absurd h List.not_mem_nil⟩⟩⟩⟩⟩⟩⟩⟩⟩⟩⟩
set_option maxRecDepth 100000 in
theorem xfX5_183 : xFOk xTs xnl KX5.1 183 0 6 0 := ⟨RX1, TX1, 9, tyX1, rfl, by decide, xlayX1, tyX1_ok, nmX1, Or.inr ⟨_, List.mem_of_getElem? (i := 3) (by rfl)⟩, fun _ => ⟨rfl, rfl⟩, fun h => absurd h (by decide)⟩
set_option maxRecDepth 100000 in
theorem xfX5_196 : xFOk xTs xnl KX5.1 196 0 7 0 := ⟨RX1, TX1, 9, tyX1, rfl, by decide, xlayX1, tyX1_ok, nmX1, Or.inr ⟨_, List.mem_of_getElem? (i := 6) (by rfl)⟩, fun _ => ⟨rfl, rfl⟩, fun h => absurd h (by decide)⟩
set_option maxRecDepth 100000 in
theorem xfX5_100 : xFOk xTs xnl KX5.1 100 0 8 0 := ⟨RX1, TX1, 9, tyX1, rfl, by decide, xlayX1, tyX1_ok, nmX1, Or.inr ⟨_, List.mem_of_getElem? (i := 7) (by rfl)⟩, fun _ => ⟨rfl, rfl⟩, fun h => absurd h (by decide)⟩
set_option maxRecDepth 100000 in
theorem xfX5_205 : xFOk xTs xnl KX5.1 205 1 1 0 := ⟨RX2, TX2, 2, tyX2, rfl, by decide, xlayX2, tyX2_ok, nmX2, Or.inr ⟨_, List.mem_of_getElem? (i := 8) (by rfl)⟩, fun _ => ⟨rfl, rfl⟩, fun h => absurd h (by decide)⟩
set_option maxRecDepth 100000 in
theorem xfX5_140 : xFOk xTs xnl KX5.1 140 2 7 0 := ⟨RX3, TX3, 11, tyX3, rfl, by decide, xlayX3, tyX3_ok, nmX3, Or.inr ⟨_, List.mem_of_getElem? (i := 9) (by rfl)⟩, fun _ => ⟨rfl, rfl⟩, fun h => absurd h (by decide)⟩
set_option maxRecDepth 100000 in
theorem xfX5_143 : xFOk xTs xnl KX5.1 143 2 8 0 := ⟨RX3, TX3, 11, tyX3, rfl, by decide, xlayX3, tyX3_ok, nmX3, Or.inr ⟨_, List.mem_of_getElem? (i := 10) (by rfl)⟩, fun _ => ⟨rfl, rfl⟩, fun h => absurd h (by decide)⟩
set_option maxRecDepth 100000 in
theorem xfX5_146 : xFOk xTs xnl KX5.1 146 2 9 0 := ⟨RX3, TX3, 11, tyX3, rfl, by decide, xlayX3, tyX3_ok, nmX3, Or.inr ⟨_, List.mem_of_getElem? (i := 11) (by rfl)⟩, fun _ => ⟨rfl, rfl⟩, fun h => absurd h (by decide)⟩
set_option maxRecDepth 100000 in
theorem xfX5_149 : xFOk xTs xnl KX5.1 149 2 10 0 := ⟨RX3, TX3, 11, tyX3, rfl, by decide, xlayX3, tyX3_ok, nmX3, Or.inr ⟨_, List.mem_of_getElem? (i := 12) (by rfl)⟩, fun _ => ⟨rfl, rfl⟩, fun h => absurd h (by decide)⟩
set_option maxRecDepth 100000 in
theorem xfX5_10 : xFOk xTs xnl KX5.1 10 4 0 2 := ⟨RX5, TX5, 10, tyX5, rfl, by decide, xlayX5, tyX5_ok, nmX5, Or.inl (xT_in 184 (by rfl) rfl), fun h => absurd h (by decide), fun h => absurd h (by decide)⟩
set_option maxRecDepth 100000 in
theorem xfX5_16 : xFOk xTs xnl KX5.1 16 4 1 2 := ⟨RX5, TX5, 10, tyX5, rfl, by decide, xlayX5, tyX5_ok, nmX5, Or.inl (xT_in 185 (by rfl) rfl), fun h => absurd h (by decide), fun h => absurd h (by decide)⟩
set_option maxRecDepth 100000 in
theorem xfX5_19 : xFOk xTs xnl KX5.1 19 4 2 2 := ⟨RX5, TX5, 10, tyX5, rfl, by decide, xlayX5, tyX5_ok, nmX5, Or.inl (xT_in 186 (by rfl) rfl), fun h => absurd h (by decide), fun h => absurd h (by decide)⟩
set_option maxRecDepth 100000 in
theorem xfX5_192 : xFOk xTs xnl KX5.1 192 4 3 1 := ⟨RX5, TX5, 10, tyX5, rfl, by decide, xlayX5, tyX5_ok, nmX5, Or.inl (xT_in 187 (by rfl) rfl), fun h => absurd h (by decide), fun _ => ⟨rfl, rfl⟩⟩
set_option maxRecDepth 100000 in
theorem xfX5_25 : xFOk xTs xnl KX5.1 25 4 4 2 := ⟨RX5, TX5, 10, tyX5, rfl, by decide, xlayX5, tyX5_ok, nmX5, Or.inl (xT_in 188 (by rfl) rfl), fun h => absurd h (by decide), fun h => absurd h (by decide)⟩
set_option maxRecDepth 100000 in
theorem xfX5_32 : xFOk xTs xnl KX5.1 32 4 5 2 := ⟨RX5, TX5, 10, tyX5, rfl, by decide, xlayX5, tyX5_ok, nmX5, Or.inl (xT_in 189 (by rfl) rfl), fun h => absurd h (by decide), fun h => absurd h (by decide)⟩
set_option maxRecDepth 100000 in
theorem xfX5_39 : xFOk xTs xnl KX5.1 39 4 6 2 := ⟨RX5, TX5, 10, tyX5, rfl, by decide, xlayX5, tyX5_ok, nmX5, Or.inl (xT_in 190 (by rfl) rfl), fun h => absurd h (by decide), fun h => absurd h (by decide)⟩
set_option maxRecDepth 100000 in
theorem xfX5_43 : xFOk xTs xnl KX5.1 43 4 7 2 := ⟨RX5, TX5, 10, tyX5, rfl, by decide, xlayX5, tyX5_ok, nmX5, Or.inl (xT_in 191 (by rfl) rfl), fun h => absurd h (by decide), fun h => absurd h (by decide)⟩
set_option maxRecDepth 100000 in
theorem xfX5_177 : xFOk xTs xnl KX5.1 177 4 8 0 := ⟨RX5, TX5, 10, tyX5, rfl, by decide, xlayX5, tyX5_ok, nmX5, Or.inl (xT_in 192 (by rfl) rfl), fun _ => ⟨rfl, rfl⟩, fun h => absurd h (by decide)⟩
set_option maxRecDepth 100000 in
theorem xfX5_47 : xFOk xTs xnl KX5.1 47 4 9 2 := ⟨RX5, TX5, 10, tyX5, rfl, by decide, xlayX5, tyX5_ok, nmX5, Or.inl (xT_in 193 (by rfl) rfl), fun h => absurd h (by decide), fun h => absurd h (by decide)⟩
set_option maxRecDepth 100000 in
theorem xlX5_50 : (61 = 0 → Cond.methodLink KX5.1 50 Lib.Math.min.name ∈ xTs ∧ Cond.static Lib.Math.min.name ∈ xTs ∧ Cond.initialized "java/lang/Math" ∈ xTs ∧ Cond.code Lib.Math.min.name Lib.Math.min.code 2 (some .int) ∈ xTs) ∧ (61 ≠ 0 → ∀ M, xnth xMs 61 = some M → Cond.methodLink KX5.1 50 M.1 ∈ xTs) := ⟨fun h => absurd h (by decide), fun _ M h => by
  obtain rfl : M = mX5_wrongNumber := Option.some.inj (h.symm.trans (by rfl))
  exact xT_in 219 (by rfl) rfl⟩
set_option maxRecDepth 100000 in
theorem xlX5_54 : (28 = 0 → Cond.methodLink KX5.1 54 Lib.Math.min.name ∈ xTs ∧ Cond.static Lib.Math.min.name ∈ xTs ∧ Cond.initialized "java/lang/Math" ∈ xTs ∧ Cond.code Lib.Math.min.name Lib.Math.min.code 2 (some .int) ∈ xTs) ∧ (28 ≠ 0 → ∀ M, xnth xMs 28 = some M → Cond.methodLink KX5.1 54 M.1 ∈ xTs) := ⟨fun h => absurd h (by decide), fun _ M h => by
  obtain rfl : M = mX2_isFull := Option.some.inj (h.symm.trans (by rfl))
  exact xT_in 222 (by rfl) rfl⟩
set_option maxRecDepth 100000 in
theorem xlX5_58 : (62 = 0 → Cond.methodLink KX5.1 58 Lib.Math.min.name ∈ xTs ∧ Cond.static Lib.Math.min.name ∈ xTs ∧ Cond.initialized "java/lang/Math" ∈ xTs ∧ Cond.code Lib.Math.min.name Lib.Math.min.code 2 (some .int) ∈ xTs) ∧ (62 ≠ 0 → ∀ M, xnth xMs 62 = some M → Cond.methodLink KX5.1 58 M.1 ∈ xTs) := ⟨fun h => absurd h (by decide), fun _ M h => by
  obtain rfl : M = mX5_refused := Option.some.inj (h.symm.trans (by rfl))
  exact xT_in 226 (by rfl) rfl⟩
set_option maxRecDepth 100000 in
theorem xlX5_62 : (29 = 0 → Cond.methodLink KX5.1 62 Lib.Math.min.name ∈ xTs ∧ Cond.static Lib.Math.min.name ∈ xTs ∧ Cond.initialized "java/lang/Math" ∈ xTs ∧ Cond.code Lib.Math.min.name Lib.Math.min.code 2 (some .int) ∈ xTs) ∧ (29 ≠ 0 → ∀ M, xnth xMs 29 = some M → Cond.methodLink KX5.1 62 M.1 ∈ xTs) := ⟨fun h => absurd h (by decide), fun _ M h => by
  obtain rfl : M = mX2_taken := Option.some.inj (h.symm.trans (by rfl))
  exact xT_in 230 (by rfl) rfl⟩
set_option maxRecDepth 100000 in
theorem xlX5_65 : (34 = 0 → Cond.methodLink KX5.1 65 Lib.Math.min.name ∈ xTs ∧ Cond.static Lib.Math.min.name ∈ xTs ∧ Cond.initialized "java/lang/Math" ∈ xTs ∧ Cond.code Lib.Math.min.name Lib.Math.min.code 2 (some .int) ∈ xTs) ∧ (34 ≠ 0 → ∀ M, xnth xMs 34 = some M → Cond.methodLink KX5.1 65 M.1 ∈ xTs) := ⟨fun h => absurd h (by decide), fun _ M h => by
  obtain rfl : M = mX2_fault := Option.some.inj (h.symm.trans (by rfl))
  exact xT_in 239 (by rfl) rfl⟩
set_option maxRecDepth 100000 in
theorem xlX5_69 : (6 = 0 → Cond.methodLink KX5.1 69 Lib.Math.min.name ∈ xTs ∧ Cond.static Lib.Math.min.name ∈ xTs ∧ Cond.initialized "java/lang/Math" ∈ xTs ∧ Cond.code Lib.Math.min.name Lib.Math.min.code 2 (some .int) ∈ xTs) ∧ (6 ≠ 0 → ∀ M, xnth xMs 6 = some M → Cond.methodLink KX5.1 69 M.1 ∈ xTs) := ⟨fun h => absurd h (by decide), fun _ M h => by
  obtain rfl : M = mX1_becomes := Option.some.inj (h.symm.trans (by rfl))
  exact xT_in 252 (by rfl) rfl⟩
set_option maxRecDepth 100000 in
theorem xlX5_73 : (40 = 0 → Cond.methodLink KX5.1 73 Lib.Math.min.name ∈ xTs ∧ Cond.static Lib.Math.min.name ∈ xTs ∧ Cond.initialized "java/lang/Math" ∈ xTs ∧ Cond.code Lib.Math.min.name Lib.Math.min.code 2 (some .int) ∈ xTs) ∧ (40 ≠ 0 → ∀ M, xnth xMs 40 = some M → Cond.methodLink KX5.1 73 M.1 ∈ xTs) := ⟨fun h => absurd h (by decide), fun _ M h => by
  obtain rfl : M = mX2_toldTo := Option.some.inj (h.symm.trans (by rfl))
  exact xT_in 256 (by rfl) rfl⟩
set_option maxRecDepth 100000 in
theorem xlX5_77 : (30 = 0 → Cond.methodLink KX5.1 77 Lib.Math.min.name ∈ xTs ∧ Cond.static Lib.Math.min.name ∈ xTs ∧ Cond.initialized "java/lang/Math" ∈ xTs ∧ Cond.code Lib.Math.min.name Lib.Math.min.code 2 (some .int) ∈ xTs) ∧ (30 ≠ 0 → ∀ M, xnth xMs 30 = some M → Cond.methodLink KX5.1 77 M.1 ∈ xTs) := ⟨fun h => absurd h (by decide), fun _ M h => by
  obtain rfl : M = mX2_forget := Option.some.inj (h.symm.trans (by rfl))
  exact xT_in 292 (by rfl) rfl⟩
set_option maxRecDepth 100000 in
theorem xlX5_80 : (65 = 0 → Cond.methodLink KX5.1 80 Lib.Math.min.name ∈ xTs ∧ Cond.static Lib.Math.min.name ∈ xTs ∧ Cond.initialized "java/lang/Math" ∈ xTs ∧ Cond.code Lib.Math.min.name Lib.Math.min.code 2 (some .int) ∈ xTs) ∧ (65 ≠ 0 → ∀ M, xnth xMs 65 = some M → Cond.methodLink KX5.1 80 M.1 ∈ xTs) := ⟨fun h => absurd h (by decide), fun _ M h => by
  obtain rfl : M = mX5_wrongSlide := Option.some.inj (h.symm.trans (by rfl))
  exact xT_in 300 (by rfl) rfl⟩
set_option maxRecDepth 100000 in
theorem xlX5_159 : (10 = 0 → Cond.methodLink KX5.1 159 Lib.Math.min.name ∈ xTs ∧ Cond.static Lib.Math.min.name ∈ xTs ∧ Cond.initialized "java/lang/Math" ∈ xTs ∧ Cond.code Lib.Math.min.name Lib.Math.min.code 2 (some .int) ∈ xTs) ∧ (10 ≠ 0 → ∀ M, xnth xMs 10 = some M → Cond.methodLink KX5.1 159 M.1 ∈ xTs) := ⟨fun h => absurd h (by decide), fun _ M h => by
  obtain rfl : M = mX1_has := Option.some.inj (h.symm.trans (by rfl))
  exact xT_in 304 (by rfl) rfl⟩
set_option maxRecDepth 100000 in
theorem xlX5_83 : (66 = 0 → Cond.methodLink KX5.1 83 Lib.Math.min.name ∈ xTs ∧ Cond.static Lib.Math.min.name ∈ xTs ∧ Cond.initialized "java/lang/Math" ∈ xTs ∧ Cond.code Lib.Math.min.name Lib.Math.min.code 2 (some .int) ∈ xTs) ∧ (66 ≠ 0 → ∀ M, xnth xMs 66 = some M → Cond.methodLink KX5.1 83 M.1 ∈ xTs) := ⟨fun h => absurd h (by decide), fun _ M h => by
  obtain rfl : M = mX5_wrongWhat := Option.some.inj (h.symm.trans (by rfl))
  exact xT_in 308 (by rfl) rfl⟩
set_option maxRecDepth 100000 in
theorem xlX5_87 : (67 = 0 → Cond.methodLink KX5.1 87 Lib.Math.min.name ∈ xTs ∧ Cond.static Lib.Math.min.name ∈ xTs ∧ Cond.initialized "java/lang/Math" ∈ xTs ∧ Cond.code Lib.Math.min.name Lib.Math.min.code 2 (some .int) ∈ xTs) ∧ (67 ≠ 0 → ∀ M, xnth xMs 67 = some M → Cond.methodLink KX5.1 87 M.1 ∈ xTs) := ⟨fun h => absurd h (by decide), fun _ M h => by
  obtain rfl : M = mX5_first := Option.some.inj (h.symm.trans (by rfl))
  exact xT_in 311 (by rfl) rfl⟩
set_option maxRecDepth 100000 in
theorem xlX5_90 : (19 = 0 → Cond.methodLink KX5.1 90 Lib.Math.min.name ∈ xTs ∧ Cond.static Lib.Math.min.name ∈ xTs ∧ Cond.initialized "java/lang/Math" ∈ xTs ∧ Cond.code Lib.Math.min.name Lib.Math.min.code 2 (some .int) ∈ xTs) ∧ (19 ≠ 0 → ∀ M, xnth xMs 19 = some M → Cond.methodLink KX5.1 90 M.1 ∈ xTs) := ⟨fun h => absurd h (by decide), fun _ M h => by
  obtain rfl : M = mX1_told := Option.some.inj (h.symm.trans (by rfl))
  exact xT_in 314 (by rfl) rfl⟩
set_option maxRecDepth 100000 in
theorem xlX5_93 : (12 = 0 → Cond.methodLink KX5.1 93 Lib.Math.min.name ∈ xTs ∧ Cond.static Lib.Math.min.name ∈ xTs ∧ Cond.initialized "java/lang/Math" ∈ xTs ∧ Cond.code Lib.Math.min.name Lib.Math.min.code 2 (some .int) ∈ xTs) ∧ (12 ≠ 0 → ∀ M, xnth xMs 12 = some M → Cond.methodLink KX5.1 93 M.1 ∈ xTs) := ⟨fun h => absurd h (by decide), fun _ M h => by
  obtain rfl : M = mX1_hasWanted := Option.some.inj (h.symm.trans (by rfl))
  exact xT_in 347 (by rfl) rfl⟩
set_option maxRecDepth 100000 in
theorem xlX5_97 : (16 = 0 → Cond.methodLink KX5.1 97 Lib.Math.min.name ∈ xTs ∧ Cond.static Lib.Math.min.name ∈ xTs ∧ Cond.initialized "java/lang/Math" ∈ xTs ∧ Cond.code Lib.Math.min.name Lib.Math.min.code 2 (some .int) ∈ xTs) ∧ (16 ≠ 0 → ∀ M, xnth xMs 16 = some M → Cond.methodLink KX5.1 97 M.1 ∈ xTs) := ⟨fun h => absurd h (by decide), fun _ M h => by
  obtain rfl : M = mX1_wantedPicture := Option.some.inj (h.symm.trans (by rfl))
  exact xT_in 351 (by rfl) rfl⟩
set_option maxRecDepth 100000 in
theorem xlX5_104 : (20 = 0 → Cond.methodLink KX5.1 104 Lib.Math.min.name ∈ xTs ∧ Cond.static Lib.Math.min.name ∈ xTs ∧ Cond.initialized "java/lang/Math" ∈ xTs ∧ Cond.code Lib.Math.min.name Lib.Math.min.code 2 (some .int) ∈ xTs) ∧ (20 ≠ 0 → ∀ M, xnth xMs 20 = some M → Cond.methodLink KX5.1 104 M.1 ∈ xTs) := ⟨fun h => absurd h (by decide), fun _ M h => by
  obtain rfl : M = mX1_repriced := Option.some.inj (h.symm.trans (by rfl))
  exact xT_in 364 (by rfl) rfl⟩
set_option maxRecDepth 100000 in
theorem xlX5_107 : (72 = 0 → Cond.methodLink KX5.1 107 Lib.Math.min.name ∈ xTs ∧ Cond.static Lib.Math.min.name ∈ xTs ∧ Cond.initialized "java/lang/Math" ∈ xTs ∧ Cond.code Lib.Math.min.name Lib.Math.min.code 2 (some .int) ∈ xTs) ∧ (72 ≠ 0 → ∀ M, xnth xMs 72 = some M → Cond.methodLink KX5.1 107 M.1 ∈ xTs) := ⟨fun h => absurd h (by decide), fun _ M h => by
  obtain rfl : M = mX5_wrongSet := Option.some.inj (h.symm.trans (by rfl))
  exact xT_in 372 (by rfl) rfl⟩
set_option maxRecDepth 100000 in
theorem xlX5_207 : (11 = 0 → Cond.methodLink KX5.1 207 Lib.Math.min.name ∈ xTs ∧ Cond.static Lib.Math.min.name ∈ xTs ∧ Cond.initialized "java/lang/Math" ∈ xTs ∧ Cond.code Lib.Math.min.name Lib.Math.min.code 2 (some .int) ∈ xTs) ∧ (11 ≠ 0 → ∀ M, xnth xMs 11 = some M → Cond.methodLink KX5.1 207 M.1 ∈ xTs) := ⟨fun h => absurd h (by decide), fun _ M h => by
  obtain rfl : M = mX1_hasAll := Option.some.inj (h.symm.trans (by rfl))
  exact xT_in 376 (by rfl) rfl⟩
set_option maxRecDepth 100000 in
theorem xlX5_110 : (21 = 0 → Cond.methodLink KX5.1 110 Lib.Math.min.name ∈ xTs ∧ Cond.static Lib.Math.min.name ∈ xTs ∧ Cond.initialized "java/lang/Math" ∈ xTs ∧ Cond.code Lib.Math.min.name Lib.Math.min.code 2 (some .int) ∈ xTs) ∧ (21 ≠ 0 → ∀ M, xnth xMs 21 = some M → Cond.methodLink KX5.1 110 M.1 ∈ xTs) := ⟨fun h => absurd h (by decide), fun _ M h => by
  obtain rfl : M = mX1_laid := Option.some.inj (h.symm.trans (by rfl))
  exact xT_in 380 (by rfl) rfl⟩
set_option maxRecDepth 100000 in
theorem xlX5_113 : (14 = 0 → Cond.methodLink KX5.1 113 Lib.Math.min.name ∈ xTs ∧ Cond.static Lib.Math.min.name ∈ xTs ∧ Cond.initialized "java/lang/Math" ∈ xTs ∧ Cond.code Lib.Math.min.name Lib.Math.min.code 2 (some .int) ∈ xTs) ∧ (14 ≠ 0 → ∀ M, xnth xMs 14 = some M → Cond.methodLink KX5.1 113 M.1 ∈ xTs) := ⟨fun h => absurd h (by decide), fun _ M h => by
  obtain rfl : M = mX1_isProjectable := Option.some.inj (h.symm.trans (by rfl))
  exact xT_in 388 (by rfl) rfl⟩
set_option maxRecDepth 100000 in
theorem xlX5_116 : (23 = 0 → Cond.methodLink KX5.1 116 Lib.Math.min.name ∈ xTs ∧ Cond.static Lib.Math.min.name ∈ xTs ∧ Cond.initialized "java/lang/Math" ∈ xTs ∧ Cond.code Lib.Math.min.name Lib.Math.min.code 2 (some .int) ∈ xTs) ∧ (23 ≠ 0 → ∀ M, xnth xMs 23 = some M → Cond.methodLink KX5.1 116 M.1 ∈ xTs) := ⟨fun h => absurd h (by decide), fun _ M h => by
  obtain rfl : M = mX1_projected := Option.some.inj (h.symm.trans (by rfl))
  exact xT_in 399 (by rfl) rfl⟩
set_option maxRecDepth 100000 in
theorem xlX5_119 : (75 = 0 → Cond.methodLink KX5.1 119 Lib.Math.min.name ∈ xTs ∧ Cond.static Lib.Math.min.name ∈ xTs ∧ Cond.initialized "java/lang/Math" ∈ xTs ∧ Cond.code Lib.Math.min.name Lib.Math.min.code 2 (some .int) ∈ xTs) ∧ (75 ≠ 0 → ∀ M, xnth xMs 75 = some M → Cond.methodLink KX5.1 119 M.1 ∈ xTs) := ⟨fun h => absurd h (by decide), fun _ M h => by
  obtain rfl : M = mX5_wrongAsked := Option.some.inj (h.symm.trans (by rfl))
  exact xT_in 415 (by rfl) rfl⟩
set_option maxRecDepth 100000 in
theorem xlX5_123 : (13 = 0 → Cond.methodLink KX5.1 123 Lib.Math.min.name ∈ xTs ∧ Cond.static Lib.Math.min.name ∈ xTs ∧ Cond.initialized "java/lang/Math" ∈ xTs ∧ Cond.code Lib.Math.min.name Lib.Math.min.code 2 (some .int) ∈ xTs) ∧ (13 ≠ 0 → ∀ M, xnth xMs 13 = some M → Cond.methodLink KX5.1 123 M.1 ∈ xTs) := ⟨fun h => absurd h (by decide), fun _ M h => by
  obtain rfl : M = mJ6_bitCount_0f7a4 := Option.some.inj (h.symm.trans (by rfl))
  exact xT_in 419 (by rfl) rfl⟩
set_option maxRecDepth 100000 in
theorem xlX5_128 : (5 = 0 → Cond.methodLink KX5.1 128 Lib.Math.min.name ∈ xTs ∧ Cond.static Lib.Math.min.name ∈ xTs ∧ Cond.initialized "java/lang/Math" ∈ xTs ∧ Cond.code Lib.Math.min.name Lib.Math.min.code 2 (some .int) ∈ xTs) ∧ (5 ≠ 0 → ∀ M, xnth xMs 5 = some M → Cond.methodLink KX5.1 128 M.1 ∈ xTs) := ⟨fun h => absurd h (by decide), fun _ M h => by
  obtain rfl : M = mX0_groups := Option.some.inj (h.symm.trans (by rfl))
  exact xT_in 420 (by rfl) rfl⟩
set_option maxRecDepth 100000 in
theorem xlX5_133 : (24 = 0 → Cond.methodLink KX5.1 133 Lib.Math.min.name ∈ xTs ∧ Cond.static Lib.Math.min.name ∈ xTs ∧ Cond.initialized "java/lang/Math" ∈ xTs ∧ Cond.code Lib.Math.min.name Lib.Math.min.code 2 (some .int) ∈ xTs) ∧ (24 ≠ 0 → ∀ M, xnth xMs 24 = some M → Cond.methodLink KX5.1 133 M.1 ∈ xTs) := ⟨fun h => absurd h (by decide), fun _ M h => by
  obtain rfl : M = mX1_nearestWanted := Option.some.inj (h.symm.trans (by rfl))
  exact xT_in 430 (by rfl) rfl⟩
set_option maxRecDepth 100000 in
theorem xlX5_136 : (47 = 0 → Cond.methodLink KX5.1 136 Lib.Math.min.name ∈ xTs ∧ Cond.static Lib.Math.min.name ∈ xTs ∧ Cond.initialized "java/lang/Math" ∈ xTs ∧ Cond.code Lib.Math.min.name Lib.Math.min.code 2 (some .int) ∈ xTs) ∧ (47 ≠ 0 → ∀ M, xnth xMs 47 = some M → Cond.methodLink KX5.1 136 M.1 ∈ xTs) := ⟨fun h => absurd h (by decide), fun _ M h => by
  obtain rfl : M = mX3_findsFewest := Option.some.inj (h.symm.trans (by rfl))
  exact xT_in 438 (by rfl) rfl⟩
set_option maxRecDepth 100000 in
theorem xlX5_152 : (49 = 0 → Cond.methodLink KX5.1 152 Lib.Math.min.name ∈ xTs ∧ Cond.static Lib.Math.min.name ∈ xTs ∧ Cond.initialized "java/lang/Math" ∈ xTs ∧ Cond.code Lib.Math.min.name Lib.Math.min.code 2 (some .int) ∈ xTs) ∧ (49 ≠ 0 → ∀ M, xnth xMs 49 = some M → Cond.methodLink KX5.1 152 M.1 ∈ xTs) := ⟨fun h => absurd h (by decide), fun _ M h => by
  obtain rfl : M = mX3_leastPrice := Option.some.inj (h.symm.trans (by rfl))
  exact xT_in 472 (by rfl) rfl⟩
set_option maxRecDepth 100000 in
theorem xlX5_156 : (51 = 0 → Cond.methodLink KX5.1 156 Lib.Math.min.name ∈ xTs ∧ Cond.static Lib.Math.min.name ∈ xTs ∧ Cond.initialized "java/lang/Math" ∈ xTs ∧ Cond.code Lib.Math.min.name Lib.Math.min.code 2 (some .int) ∈ xTs) ∧ (51 ≠ 0 → ∀ M, xnth xMs 51 = some M → Cond.methodLink KX5.1 156 M.1 ∈ xTs) := ⟨fun h => absurd h (by decide), fun _ M h => by
  obtain rfl : M = mX3_leastUnlike := Option.some.inj (h.symm.trans (by rfl))
  exact xT_in 484 (by rfl) rfl⟩
set_option maxRecDepth 100000 in
theorem xlX5_162 : (53 = 0 → Cond.methodLink KX5.1 162 Lib.Math.min.name ∈ xTs ∧ Cond.static Lib.Math.min.name ∈ xTs ∧ Cond.initialized "java/lang/Math" ∈ xTs ∧ Cond.code Lib.Math.min.name Lib.Math.min.code 2 (some .int) ∈ xTs) ∧ (53 ≠ 0 → ∀ M, xnth xMs 53 = some M → Cond.methodLink KX5.1 162 M.1 ∈ xTs) := ⟨fun h => absurd h (by decide), fun _ M h => by
  obtain rfl : M = mX3_showable := Option.some.inj (h.symm.trans (by rfl))
  exact xT_in 497 (by rfl) rfl⟩
set_option maxRecDepth 100000 in
theorem xlX5_165 : (25 = 0 → Cond.methodLink KX5.1 165 Lib.Math.min.name ∈ xTs ∧ Cond.static Lib.Math.min.name ∈ xTs ∧ Cond.initialized "java/lang/Math" ∈ xTs ∧ Cond.code Lib.Math.min.name Lib.Math.min.code 2 (some .int) ∈ xTs) ∧ (25 ≠ 0 → ∀ M, xnth xMs 25 = some M → Cond.methodLink KX5.1 165 M.1 ∈ xTs) := ⟨fun h => absurd h (by decide), fun _ M h => by
  obtain rfl : M = mX1_cracksToShow := Option.some.inj (h.symm.trans (by rfl))
  exact xT_in 518 (by rfl) rfl⟩
set_option maxRecDepth 100000 in
theorem xlX5_170 : (85 = 0 → Cond.methodLink KX5.1 170 Lib.Math.min.name ∈ xTs ∧ Cond.static Lib.Math.min.name ∈ xTs ∧ Cond.initialized "java/lang/Math" ∈ xTs ∧ Cond.code Lib.Math.min.name Lib.Math.min.code 2 (some .int) ∈ xTs) ∧ (85 ≠ 0 → ∀ M, xnth xMs 85 = some M → Cond.methodLink KX5.1 170 M.1 ∈ xTs) := ⟨fun h => absurd h (by decide), fun _ M h => by
  obtain rfl : M = mX5_power := Option.some.inj (h.symm.trans (by rfl))
  exact xT_in 527 (by rfl) rfl⟩
set_option maxRecDepth 100000 in
theorem xlX5_174 : (60 = 0 → Cond.methodLink KX5.1 174 Lib.Math.min.name ∈ xTs ∧ Cond.static Lib.Math.min.name ∈ xTs ∧ Cond.initialized "java/lang/Math" ∈ xTs ∧ Cond.code Lib.Math.min.name Lib.Math.min.code 2 (some .int) ∈ xTs) ∧ (60 ≠ 0 → ∀ M, xnth xMs 60 = some M → Cond.methodLink KX5.1 174 M.1 ∈ xTs) := ⟨fun h => absurd h (by decide), fun _ M h => by
  obtain rfl : M = mX4_leastCost := Option.some.inj (h.symm.trans (by rfl))
  exact xT_in 534 (by rfl) rfl⟩
set_option maxRecDepth 100000 in
theorem xlX5_180 : (15 = 0 → Cond.methodLink KX5.1 180 Lib.Math.min.name ∈ xTs ∧ Cond.static Lib.Math.min.name ∈ xTs ∧ Cond.initialized "java/lang/Math" ∈ xTs ∧ Cond.code Lib.Math.min.name Lib.Math.min.code 2 (some .int) ∈ xTs) ∧ (15 ≠ 0 → ∀ M, xnth xMs 15 = some M → Cond.methodLink KX5.1 180 M.1 ∈ xTs) := ⟨fun h => absurd h (by decide), fun _ M h => by
  obtain rfl : M = mX1_isWanted := Option.some.inj (h.symm.trans (by rfl))
  exact xT_in 574 (by rfl) rfl⟩
set_option maxRecDepth 100000 in
theorem xlX5_186 : (90 = 0 → Cond.methodLink KX5.1 186 Lib.Math.min.name ∈ xTs ∧ Cond.static Lib.Math.min.name ∈ xTs ∧ Cond.initialized "java/lang/Math" ∈ xTs ∧ Cond.code Lib.Math.min.name Lib.Math.min.code 2 (some .int) ∈ xTs) ∧ (90 ≠ 0 → ∀ M, xnth xMs 90 = some M → Cond.methodLink KX5.1 186 M.1 ∈ xTs) := ⟨fun h => absurd h (by decide), fun _ M h => by
  obtain rfl : M = mX5_nextSeed := Option.some.inj (h.symm.trans (by rfl))
  exact xT_in 582 (by rfl) rfl⟩
set_option maxRecDepth 100000 in
theorem xlX5_189 : (91 = 0 → Cond.methodLink KX5.1 189 Lib.Math.min.name ∈ xTs ∧ Cond.static Lib.Math.min.name ∈ xTs ∧ Cond.initialized "java/lang/Math" ∈ xTs ∧ Cond.code Lib.Math.min.name Lib.Math.min.code 2 (some .int) ∈ xTs) ∧ (91 ≠ 0 → ∀ M, xnth xMs 91 = some M → Cond.methodLink KX5.1 189 M.1 ∈ xTs) := ⟨fun h => absurd h (by decide), fun _ M h => by
  obtain rfl : M = mX5_drawBelow := Option.some.inj (h.symm.trans (by rfl))
  exact xT_in 586 (by rfl) rfl⟩
set_option maxRecDepth 100000 in
theorem xlX5_199 : (26 = 0 → Cond.methodLink KX5.1 199 Lib.Math.min.name ∈ xTs ∧ Cond.static Lib.Math.min.name ∈ xTs ∧ Cond.initialized "java/lang/Math" ∈ xTs ∧ Cond.code Lib.Math.min.name Lib.Math.min.code 2 (some .int) ∈ xTs) ∧ (26 ≠ 0 → ∀ M, xnth xMs 26 = some M → Cond.methodLink KX5.1 199 M.1 ∈ xTs) := ⟨fun h => absurd h (by decide), fun _ M h => by
  obtain rfl : M = mX1_allUses := Option.some.inj (h.symm.trans (by rfl))
  exact xT_in 603 (by rfl) rfl⟩
set_option maxRecDepth 100000 in
theorem xlX5_202 : (27 = 0 → Cond.methodLink KX5.1 202 Lib.Math.min.name ∈ xTs ∧ Cond.static Lib.Math.min.name ∈ xTs ∧ Cond.initialized "java/lang/Math" ∈ xTs ∧ Cond.code Lib.Math.min.name Lib.Math.min.code 2 (some .int) ∈ xTs) ∧ (27 ≠ 0 → ∀ M, xnth xMs 27 = some M → Cond.methodLink KX5.1 202 M.1 ∈ xTs) := ⟨fun h => absurd h (by decide), fun _ M h => by
  obtain rfl : M = mX1_allPrices := Option.some.inj (h.symm.trans (by rfl))
  exact xT_in 607 (by rfl) rfl⟩
set_option maxRecDepth 100000 in
theorem okX5 : xCOk xTs xnl xMs KX5 := ⟨List.forall_mem_cons.mpr ⟨xfX5_183, List.forall_mem_cons.mpr ⟨xfX5_196, List.forall_mem_cons.mpr ⟨xfX5_100, List.forall_mem_cons.mpr ⟨xfX5_205, List.forall_mem_cons.mpr ⟨xfX5_140, List.forall_mem_cons.mpr ⟨xfX5_143, List.forall_mem_cons.mpr ⟨xfX5_146, List.forall_mem_cons.mpr ⟨xfX5_149, List.forall_mem_cons.mpr ⟨xfX5_10, List.forall_mem_cons.mpr ⟨xfX5_16, List.forall_mem_cons.mpr ⟨xfX5_19, List.forall_mem_cons.mpr ⟨xfX5_192, List.forall_mem_cons.mpr ⟨xfX5_25, List.forall_mem_cons.mpr ⟨xfX5_32, List.forall_mem_cons.mpr ⟨xfX5_39, List.forall_mem_cons.mpr ⟨xfX5_43, List.forall_mem_cons.mpr ⟨xfX5_177, List.forall_mem_cons.mpr ⟨xfX5_47, fun _ h => absurd h List.not_mem_nil⟩⟩⟩⟩⟩⟩⟩⟩⟩⟩⟩⟩⟩⟩⟩⟩⟩⟩, List.forall_mem_cons.mpr ⟨xT_in 418 (by rfl) rfl, List.forall_mem_cons.mpr ⟨xT_in 585 (by rfl) rfl, List.forall_mem_cons.mpr ⟨xT_in 589 (by rfl) rfl, List.forall_mem_cons.mpr ⟨xT_in 590 (by rfl) rfl, fun _ h => absurd h List.not_mem_nil⟩⟩⟩⟩, List.forall_mem_cons.mpr ⟨xT_in 526 (by rfl) rfl, fun _ h => absurd h List.not_mem_nil⟩, List.forall_mem_cons.mpr ⟨xlX5_50, List.forall_mem_cons.mpr ⟨xlX5_54, List.forall_mem_cons.mpr ⟨xlX5_58, List.forall_mem_cons.mpr ⟨xlX5_62, List.forall_mem_cons.mpr ⟨xlX5_65, List.forall_mem_cons.mpr ⟨xlX5_69, List.forall_mem_cons.mpr ⟨xlX5_73, List.forall_mem_cons.mpr ⟨xlX5_77, List.forall_mem_cons.mpr ⟨xlX5_80, List.forall_mem_cons.mpr ⟨xlX5_159, List.forall_mem_cons.mpr ⟨xlX5_83, List.forall_mem_cons.mpr ⟨xlX5_87, List.forall_mem_cons.mpr ⟨xlX5_90, List.forall_mem_cons.mpr ⟨xlX5_93, List.forall_mem_cons.mpr ⟨xlX5_97, List.forall_mem_cons.mpr ⟨xlX5_104, List.forall_mem_cons.mpr ⟨xlX5_107, List.forall_mem_cons.mpr ⟨xlX5_207, List.forall_mem_cons.mpr ⟨xlX5_110, List.forall_mem_cons.mpr ⟨xlX5_113, List.forall_mem_cons.mpr ⟨xlX5_116, List.forall_mem_cons.mpr ⟨xlX5_119, List.forall_mem_cons.mpr ⟨xlX5_123, List.forall_mem_cons.mpr ⟨xlX5_128, List.forall_mem_cons.mpr ⟨xlX5_133, List.forall_mem_cons.mpr ⟨xlX5_136, List.forall_mem_cons.mpr ⟨xlX5_152, List.forall_mem_cons.mpr ⟨xlX5_156, List.forall_mem_cons.mpr ⟨xlX5_162, List.forall_mem_cons.mpr ⟨xlX5_165, List.forall_mem_cons.mpr ⟨xlX5_170, List.forall_mem_cons.mpr ⟨xlX5_174, List.forall_mem_cons.mpr ⟨xlX5_180, List.forall_mem_cons.mpr ⟨xlX5_186, List.forall_mem_cons.mpr ⟨xlX5_189, List.forall_mem_cons.mpr ⟨xlX5_199, List.forall_mem_cons.mpr ⟨xlX5_202, fun _ h => absurd h List.not_mem_nil⟩⟩⟩⟩⟩⟩⟩⟩⟩⟩⟩⟩⟩⟩⟩⟩⟩⟩⟩⟩⟩⟩⟩⟩⟩⟩⟩⟩⟩⟩⟩⟩⟩⟩⟩⟩⟩⟩
set_option maxRecDepth 100000 in
theorem xfX6_7 : xFOk xTs xnl KX6.1 7 5 0 2 := ⟨RX6, TX6, 32, tyX6, rfl, by decide, xlayX6, tyX6_ok, nmX6, Or.inl (xT_in 617 (by rfl) rfl), fun h => absurd h (by decide), fun h => absurd h (by decide)⟩
set_option maxRecDepth 100000 in
theorem xfX6_13 : xFOk xTs xnl KX6.1 13 5 1 2 := ⟨RX6, TX6, 32, tyX6, rfl, by decide, xlayX6, tyX6_ok, nmX6, Or.inl (xT_in 618 (by rfl) rfl), fun h => absurd h (by decide), fun h => absurd h (by decide)⟩
set_option maxRecDepth 100000 in
theorem xfX6_16 : xFOk xTs xnl KX6.1 16 5 2 2 := ⟨RX6, TX6, 32, tyX6, rfl, by decide, xlayX6, tyX6_ok, nmX6, Or.inl (xT_in 619 (by rfl) rfl), fun h => absurd h (by decide), fun h => absurd h (by decide)⟩
set_option maxRecDepth 100000 in
theorem xfX6_19 : xFOk xTs xnl KX6.1 19 5 3 2 := ⟨RX6, TX6, 32, tyX6, rfl, by decide, xlayX6, tyX6_ok, nmX6, Or.inl (xT_in 620 (by rfl) rfl), fun h => absurd h (by decide), fun h => absurd h (by decide)⟩
set_option maxRecDepth 100000 in
theorem xfX6_22 : xFOk xTs xnl KX6.1 22 5 4 2 := ⟨RX6, TX6, 32, tyX6, rfl, by decide, xlayX6, tyX6_ok, nmX6, Or.inl (xT_in 621 (by rfl) rfl), fun h => absurd h (by decide), fun h => absurd h (by decide)⟩
set_option maxRecDepth 100000 in
theorem xfX6_25 : xFOk xTs xnl KX6.1 25 5 5 2 := ⟨RX6, TX6, 32, tyX6, rfl, by decide, xlayX6, tyX6_ok, nmX6, Or.inl (xT_in 622 (by rfl) rfl), fun h => absurd h (by decide), fun h => absurd h (by decide)⟩
set_option maxRecDepth 100000 in
theorem xfX6_28 : xFOk xTs xnl KX6.1 28 5 6 2 := ⟨RX6, TX6, 32, tyX6, rfl, by decide, xlayX6, tyX6_ok, nmX6, Or.inl (xT_in 623 (by rfl) rfl), fun h => absurd h (by decide), fun h => absurd h (by decide)⟩
set_option maxRecDepth 100000 in
theorem xfX6_64 : xFOk xTs xnl KX6.1 64 5 7 0 := ⟨RX6, TX6, 32, tyX6, rfl, by decide, xlayX6, tyX6_ok, nmX6, Or.inl (xT_in 624 (by rfl) rfl), fun _ => ⟨rfl, rfl⟩, fun h => absurd h (by decide)⟩
set_option maxRecDepth 100000 in
theorem xfX6_103 : xFOk xTs xnl KX6.1 103 5 8 0 := ⟨RX6, TX6, 32, tyX6, rfl, by decide, xlayX6, tyX6_ok, nmX6, Or.inl (xT_in 625 (by rfl) rfl), fun _ => ⟨rfl, rfl⟩, fun h => absurd h (by decide)⟩
set_option maxRecDepth 100000 in
theorem xfX6_31 : xFOk xTs xnl KX6.1 31 5 9 0 := ⟨RX6, TX6, 32, tyX6, rfl, by decide, xlayX6, tyX6_ok, nmX6, Or.inl (xT_in 626 (by rfl) rfl), fun _ => ⟨rfl, rfl⟩, fun h => absurd h (by decide)⟩
set_option maxRecDepth 100000 in
theorem xfX6_35 : xFOk xTs xnl KX6.1 35 5 10 2 := ⟨RX6, TX6, 32, tyX6, rfl, by decide, xlayX6, tyX6_ok, nmX6, Or.inl (xT_in 627 (by rfl) rfl), fun h => absurd h (by decide), fun h => absurd h (by decide)⟩
set_option maxRecDepth 100000 in
theorem xfX6_38 : xFOk xTs xnl KX6.1 38 5 11 2 := ⟨RX6, TX6, 32, tyX6, rfl, by decide, xlayX6, tyX6_ok, nmX6, Or.inl (xT_in 628 (by rfl) rfl), fun h => absurd h (by decide), fun h => absurd h (by decide)⟩
set_option maxRecDepth 100000 in
theorem xfX6_41 : xFOk xTs xnl KX6.1 41 5 12 2 := ⟨RX6, TX6, 32, tyX6, rfl, by decide, xlayX6, tyX6_ok, nmX6, Or.inl (xT_in 629 (by rfl) rfl), fun h => absurd h (by decide), fun h => absurd h (by decide)⟩
set_option maxRecDepth 100000 in
theorem xfX6_44 : xFOk xTs xnl KX6.1 44 5 13 2 := ⟨RX6, TX6, 32, tyX6, rfl, by decide, xlayX6, tyX6_ok, nmX6, Or.inl (xT_in 630 (by rfl) rfl), fun h => absurd h (by decide), fun h => absurd h (by decide)⟩
set_option maxRecDepth 100000 in
theorem xfX6_71 : xFOk xTs xnl KX6.1 71 5 14 0 := ⟨RX6, TX6, 32, tyX6, rfl, by decide, xlayX6, tyX6_ok, nmX6, Or.inl (xT_in 631 (by rfl) rfl), fun _ => ⟨rfl, rfl⟩, fun h => absurd h (by decide)⟩
set_option maxRecDepth 100000 in
theorem xfX6_78 : xFOk xTs xnl KX6.1 78 5 15 0 := ⟨RX6, TX6, 32, tyX6, rfl, by decide, xlayX6, tyX6_ok, nmX6, Or.inl (xT_in 632 (by rfl) rfl), fun _ => ⟨rfl, rfl⟩, fun h => absurd h (by decide)⟩
set_option maxRecDepth 100000 in
theorem xfX6_97 : xFOk xTs xnl KX6.1 97 5 16 0 := ⟨RX6, TX6, 32, tyX6, rfl, by decide, xlayX6, tyX6_ok, nmX6, Or.inl (xT_in 633 (by rfl) rfl), fun _ => ⟨rfl, rfl⟩, fun h => absurd h (by decide)⟩
set_option maxRecDepth 100000 in
theorem xfX6_47 : xFOk xTs xnl KX6.1 47 5 17 2 := ⟨RX6, TX6, 32, tyX6, rfl, by decide, xlayX6, tyX6_ok, nmX6, Or.inl (xT_in 634 (by rfl) rfl), fun h => absurd h (by decide), fun h => absurd h (by decide)⟩
set_option maxRecDepth 100000 in
theorem xfX6_131 : xFOk xTs xnl KX6.1 131 5 18 1 := ⟨RX6, TX6, 32, tyX6, rfl, by decide, xlayX6, tyX6_ok, nmX6, Or.inl (xT_in 635 (by rfl) rfl), fun h => absurd h (by decide), fun _ => ⟨rfl, rfl⟩⟩
set_option maxRecDepth 100000 in
theorem xfX6_117 : xFOk xTs xnl KX6.1 117 5 19 1 := ⟨RX6, TX6, 32, tyX6, rfl, by decide, xlayX6, tyX6_ok, nmX6, Or.inl (xT_in 636 (by rfl) rfl), fun h => absurd h (by decide), fun _ => ⟨rfl, rfl⟩⟩
set_option maxRecDepth 100000 in
theorem xfX6_121 : xFOk xTs xnl KX6.1 121 5 20 0 := ⟨RX6, TX6, 32, tyX6, rfl, by decide, xlayX6, tyX6_ok, nmX6, Or.inl (xT_in 637 (by rfl) rfl), fun _ => ⟨rfl, rfl⟩, fun h => absurd h (by decide)⟩
set_option maxRecDepth 100000 in
theorem xfX6_170 : xFOk xTs xnl KX6.1 170 5 21 0 := ⟨RX6, TX6, 32, tyX6, rfl, by decide, xlayX6, tyX6_ok, nmX6, Or.inl (xT_in 638 (by rfl) rfl), fun _ => ⟨rfl, rfl⟩, fun h => absurd h (by decide)⟩
set_option maxRecDepth 100000 in
theorem xfX6_173 : xFOk xTs xnl KX6.1 173 5 22 0 := ⟨RX6, TX6, 32, tyX6, rfl, by decide, xlayX6, tyX6_ok, nmX6, Or.inl (xT_in 639 (by rfl) rfl), fun _ => ⟨rfl, rfl⟩, fun h => absurd h (by decide)⟩
set_option maxRecDepth 100000 in
theorem xfX6_176 : xFOk xTs xnl KX6.1 176 5 23 0 := ⟨RX6, TX6, 32, tyX6, rfl, by decide, xlayX6, tyX6_ok, nmX6, Or.inl (xT_in 640 (by rfl) rfl), fun _ => ⟨rfl, rfl⟩, fun h => absurd h (by decide)⟩
set_option maxRecDepth 100000 in
theorem xfX6_179 : xFOk xTs xnl KX6.1 179 5 24 0 := ⟨RX6, TX6, 32, tyX6, rfl, by decide, xlayX6, tyX6_ok, nmX6, Or.inl (xT_in 641 (by rfl) rfl), fun _ => ⟨rfl, rfl⟩, fun h => absurd h (by decide)⟩
set_option maxRecDepth 100000 in
theorem xfX6_182 : xFOk xTs xnl KX6.1 182 5 25 0 := ⟨RX6, TX6, 32, tyX6, rfl, by decide, xlayX6, tyX6_ok, nmX6, Or.inl (xT_in 642 (by rfl) rfl), fun _ => ⟨rfl, rfl⟩, fun h => absurd h (by decide)⟩
set_option maxRecDepth 100000 in
theorem xfX6_185 : xFOk xTs xnl KX6.1 185 5 26 0 := ⟨RX6, TX6, 32, tyX6, rfl, by decide, xlayX6, tyX6_ok, nmX6, Or.inl (xT_in 643 (by rfl) rfl), fun _ => ⟨rfl, rfl⟩, fun h => absurd h (by decide)⟩
set_option maxRecDepth 100000 in
theorem xfX6_50 : xFOk xTs xnl KX6.1 50 5 27 2 := ⟨RX6, TX6, 32, tyX6, rfl, by decide, xlayX6, tyX6_ok, nmX6, Or.inl (xT_in 644 (by rfl) rfl), fun h => absurd h (by decide), fun h => absurd h (by decide)⟩
set_option maxRecDepth 100000 in
theorem xfX6_53 : xFOk xTs xnl KX6.1 53 5 28 2 := ⟨RX6, TX6, 32, tyX6, rfl, by decide, xlayX6, tyX6_ok, nmX6, Or.inl (xT_in 645 (by rfl) rfl), fun h => absurd h (by decide), fun h => absurd h (by decide)⟩
set_option maxRecDepth 100000 in
theorem xfX6_56 : xFOk xTs xnl KX6.1 56 5 29 2 := ⟨RX6, TX6, 32, tyX6, rfl, by decide, xlayX6, tyX6_ok, nmX6, Or.inl (xT_in 646 (by rfl) rfl), fun h => absurd h (by decide), fun h => absurd h (by decide)⟩
set_option maxRecDepth 100000 in
theorem xfX6_59 : xFOk xTs xnl KX6.1 59 5 30 2 := ⟨RX6, TX6, 32, tyX6, rfl, by decide, xlayX6, tyX6_ok, nmX6, Or.inl (xT_in 647 (by rfl) rfl), fun h => absurd h (by decide), fun h => absurd h (by decide)⟩
set_option maxRecDepth 100000 in
theorem xfX6_230 : xFOk xTs xnl KX6.1 230 5 31 0 := ⟨RX6, TX6, 32, tyX6, rfl, by decide, xlayX6, tyX6_ok, nmX6, Or.inl (xT_in 648 (by rfl) rfl), fun _ => ⟨rfl, rfl⟩, fun h => absurd h (by decide)⟩
set_option maxRecDepth 100000 in
theorem xlX6_67 : (99 = 0 → Cond.methodLink KX6.1 67 Lib.Math.min.name ∈ xTs ∧ Cond.static Lib.Math.min.name ∈ xTs ∧ Cond.initialized "java/lang/Math" ∈ xTs ∧ Cond.code Lib.Math.min.name Lib.Math.min.code 2 (some .int) ∈ xTs) ∧ (99 ≠ 0 → ∀ M, xnth xMs 99 = some M → Cond.methodLink KX6.1 67 M.1 ∈ xTs) := ⟨fun h => absurd h (by decide), fun _ M h => by
  obtain rfl : M = mX6_bound := Option.some.inj (h.symm.trans (by rfl))
  exact xT_in 718 (by rfl) rfl⟩
set_option maxRecDepth 100000 in
theorem xlX6_74 : (96 = 0 → Cond.methodLink KX6.1 74 Lib.Math.min.name ∈ xTs ∧ Cond.static Lib.Math.min.name ∈ xTs ∧ Cond.initialized "java/lang/Math" ∈ xTs ∧ Cond.code Lib.Math.min.name Lib.Math.min.code 2 (some .int) ∈ xTs) ∧ (96 ≠ 0 → ∀ M, xnth xMs 96 = some M → Cond.methodLink KX6.1 74 M.1 ∈ xTs) := ⟨fun h => absurd h (by decide), fun _ M h => by
  obtain rfl : M = mX6_no := Option.some.inj (h.symm.trans (by rfl))
  exact xT_in 721 (by rfl) rfl⟩
set_option maxRecDepth 100000 in
theorem xlX6_106 : (107 = 0 → Cond.methodLink KX6.1 106 Lib.Math.min.name ∈ xTs ∧ Cond.static Lib.Math.min.name ∈ xTs ∧ Cond.initialized "java/lang/Math" ∈ xTs ∧ Cond.code Lib.Math.min.name Lib.Math.min.code 2 (some .int) ∈ xTs) ∧ (107 ≠ 0 → ∀ M, xnth xMs 107 = some M → Cond.methodLink KX6.1 106 M.1 ∈ xTs) := ⟨fun h => absurd h (by decide), fun _ M h => by
  obtain rfl : M = mX6_statement := Option.some.inj (h.symm.trans (by rfl))
  exact xT_in 729 (by rfl) rfl⟩
set_option maxRecDepth 100000 in
theorem xlX6_81 : (103 = 0 → Cond.methodLink KX6.1 81 Lib.Math.min.name ∈ xTs ∧ Cond.static Lib.Math.min.name ∈ xTs ∧ Cond.initialized "java/lang/Math" ∈ xTs ∧ Cond.code Lib.Math.min.name Lib.Math.min.code 2 (some .int) ∈ xTs) ∧ (103 ≠ 0 → ∀ M, xnth xMs 103 = some M → Cond.methodLink KX6.1 81 M.1 ∈ xTs) := ⟨fun h => absurd h (by decide), fun _ M h => by
  obtain rfl : M = mX6_next := Option.some.inj (h.symm.trans (by rfl))
  exact xT_in 733 (by rfl) rfl⟩
set_option maxRecDepth 100000 in
theorem xlX6_100 : (106 = 0 → Cond.methodLink KX6.1 100 Lib.Math.min.name ∈ xTs ∧ Cond.static Lib.Math.min.name ∈ xTs ∧ Cond.initialized "java/lang/Math" ∈ xTs ∧ Cond.code Lib.Math.min.name Lib.Math.min.code 2 (some .int) ∈ xTs) ∧ (106 ≠ 0 → ∀ M, xnth xMs 106 = some M → Cond.methodLink KX6.1 100 M.1 ∈ xTs) := ⟨fun h => absurd h (by decide), fun _ M h => by
  obtain rfl : M = mX6_readsSlide := Option.some.inj (h.symm.trans (by rfl))
  exact xT_in 737 (by rfl) rfl⟩
set_option maxRecDepth 100000 in
theorem xlX6_89 : (104 = 0 → Cond.methodLink KX6.1 89 Lib.Math.min.name ∈ xTs ∧ Cond.static Lib.Math.min.name ∈ xTs ∧ Cond.initialized "java/lang/Math" ∈ xTs ∧ Cond.code Lib.Math.min.name Lib.Math.min.code 2 (some .int) ∈ xTs) ∧ (104 ≠ 0 → ∀ M, xnth xMs 104 = some M → Cond.methodLink KX6.1 89 M.1 ∈ xTs) := ⟨fun h => absurd h (by decide), fun _ M h => by
  obtain rfl : M = mX6_readsNumber := Option.some.inj (h.symm.trans (by rfl))
  exact xT_in 741 (by rfl) rfl⟩
set_option maxRecDepth 100000 in
theorem xlX6_85 : (98 = 0 → Cond.methodLink KX6.1 85 Lib.Math.min.name ∈ xTs ∧ Cond.static Lib.Math.min.name ∈ xTs ∧ Cond.initialized "java/lang/Math" ∈ xTs ∧ Cond.code Lib.Math.min.name Lib.Math.min.code 2 (some .int) ∈ xTs) ∧ (98 ≠ 0 → ∀ M, xnth xMs 98 = some M → Cond.methodLink KX6.1 85 M.1 ∈ xTs) := ⟨fun h => absurd h (by decide), fun _ M h => by
  obtain rfl : M = mX6_isIn := Option.some.inj (h.symm.trans (by rfl))
  exact xT_in 745 (by rfl) rfl⟩
set_option maxRecDepth 100000 in
theorem xlX6_93 : (105 = 0 → Cond.methodLink KX6.1 93 Lib.Math.min.name ∈ xTs ∧ Cond.static Lib.Math.min.name ∈ xTs ∧ Cond.initialized "java/lang/Math" ∈ xTs ∧ Cond.code Lib.Math.min.name Lib.Math.min.code 2 (some .int) ∈ xTs) ∧ (105 ≠ 0 → ∀ M, xnth xMs 105 = some M → Cond.methodLink KX6.1 93 M.1 ∈ xTs) := ⟨fun h => absurd h (by decide), fun _ M h => by
  obtain rfl : M = mX6_readsPicture := Option.some.inj (h.symm.trans (by rfl))
  exact xT_in 748 (by rfl) rfl⟩
set_option maxRecDepth 100000 in
theorem xlX6_110 : (111 = 0 → Cond.methodLink KX6.1 110 Lib.Math.min.name ∈ xTs ∧ Cond.static Lib.Math.min.name ∈ xTs ∧ Cond.initialized "java/lang/Math" ∈ xTs ∧ Cond.code Lib.Math.min.name Lib.Math.min.code 2 (some .int) ∈ xTs) ∧ (111 ≠ 0 → ∀ M, xnth xMs 111 = some M → Cond.methodLink KX6.1 110 M.1 ∈ xTs) := ⟨fun h => absurd h (by decide), fun _ M h => by
  obtain rfl : M = mX6_passesAll := Option.some.inj (h.symm.trans (by rfl))
  exact xT_in 752 (by rfl) rfl⟩
set_option maxRecDepth 100000 in
theorem xlX6_124 : (109 = 0 → Cond.methodLink KX6.1 124 Lib.Math.min.name ∈ xTs ∧ Cond.static Lib.Math.min.name ∈ xTs ∧ Cond.initialized "java/lang/Math" ∈ xTs ∧ Cond.code Lib.Math.min.name Lib.Math.min.code 2 (some .int) ∈ xTs) ∧ (109 ≠ 0 → ∀ M, xnth xMs 109 = some M → Cond.methodLink KX6.1 124 M.1 ∈ xTs) := ⟨fun h => absurd h (by decide), fun _ M h => by
  obtain rfl : M = mX6_passes := Option.some.inj (h.symm.trans (by rfl))
  exact xT_in 756 (by rfl) rfl⟩
set_option maxRecDepth 100000 in
theorem xlX6_128 : (110 = 0 → Cond.methodLink KX6.1 128 Lib.Math.min.name ∈ xTs ∧ Cond.static Lib.Math.min.name ∈ xTs ∧ Cond.initialized "java/lang/Math" ∈ xTs ∧ Cond.code Lib.Math.min.name Lib.Math.min.code 2 (some .int) ∈ xTs) ∧ (110 ≠ 0 → ∀ M, xnth xMs 110 = some M → Cond.methodLink KX6.1 128 M.1 ∈ xTs) := ⟨fun h => absurd h (by decide), fun _ M h => by
  obtain rfl : M = mX6_passOne := Option.some.inj (h.symm.trans (by rfl))
  exact xT_in 760 (by rfl) rfl⟩
set_option maxRecDepth 100000 in
theorem xlX6_114 : (108 = 0 → Cond.methodLink KX6.1 114 Lib.Math.min.name ∈ xTs ∧ Cond.static Lib.Math.min.name ∈ xTs ∧ Cond.initialized "java/lang/Math" ∈ xTs ∧ Cond.code Lib.Math.min.name Lib.Math.min.code 2 (some .int) ∈ xTs) ∧ (108 ≠ 0 → ∀ M, xnth xMs 108 = some M → Cond.methodLink KX6.1 114 M.1 ∈ xTs) := ⟨fun h => absurd h (by decide), fun _ M h => by
  obtain rfl : M = mX6_comes := Option.some.inj (h.symm.trans (by rfl))
  exact xT_in 764 (by rfl) rfl⟩
set_option maxRecDepth 100000 in
theorem xlX6_148 : (100 = 0 → Cond.methodLink KX6.1 148 Lib.Math.min.name ∈ xTs ∧ Cond.static Lib.Math.min.name ∈ xTs ∧ Cond.initialized "java/lang/Math" ∈ xTs ∧ Cond.code Lib.Math.min.name Lib.Math.min.code 2 (some .int) ∈ xTs) ∧ (100 ≠ 0 → ∀ M, xnth xMs 100 = some M → Cond.methodLink KX6.1 148 M.1 ∈ xTs) := ⟨fun h => absurd h (by decide), fun _ M h => by
  obtain rfl : M = mX6_isSlide := Option.some.inj (h.symm.trans (by rfl))
  exact xT_in 780 (by rfl) rfl⟩
set_option maxRecDepth 100000 in
theorem xlX6_145 : (119 = 0 → Cond.methodLink KX6.1 145 Lib.Math.min.name ∈ xTs ∧ Cond.static Lib.Math.min.name ∈ xTs ∧ Cond.initialized "java/lang/Math" ∈ xTs ∧ Cond.code Lib.Math.min.name Lib.Math.min.code 2 (some .int) ∈ xTs) ∧ (119 ≠ 0 → ∀ M, xnth xMs 119 = some M → Cond.methodLink KX6.1 145 M.1 ∈ xTs) := ⟨fun h => absurd h (by decide), fun _ M h => by
  obtain rfl : M = mX6_onSlide := Option.some.inj (h.symm.trans (by rfl))
  exact xT_in 784 (by rfl) rfl⟩
set_option maxRecDepth 100000 in
theorem xlX6_134 : (116 = 0 → Cond.methodLink KX6.1 134 Lib.Math.min.name ∈ xTs ∧ Cond.static Lib.Math.min.name ∈ xTs ∧ Cond.initialized "java/lang/Math" ∈ xTs ∧ Cond.code Lib.Math.min.name Lib.Math.min.code 2 (some .int) ∈ xTs) ∧ (116 ≠ 0 → ∀ M, xnth xMs 116 = some M → Cond.methodLink KX6.1 134 M.1 ∈ xTs) := ⟨fun h => absurd h (by decide), fun _ M h => by
  obtain rfl : M = mX6_mirrored := Option.some.inj (h.symm.trans (by rfl))
  exact xT_in 788 (by rfl) rfl⟩
set_option maxRecDepth 100000 in
theorem xlX6_137 : (117 = 0 → Cond.methodLink KX6.1 137 Lib.Math.min.name ∈ xTs ∧ Cond.static Lib.Math.min.name ∈ xTs ∧ Cond.initialized "java/lang/Math" ∈ xTs ∧ Cond.code Lib.Math.min.name Lib.Math.min.code 2 (some .int) ∈ xTs) ∧ (117 ≠ 0 → ∀ M, xnth xMs 117 = some M → Cond.methodLink KX6.1 137 M.1 ∈ xTs) := ⟨fun h => absurd h (by decide), fun _ M h => by
  obtain rfl : M = mX6_upsideDown := Option.some.inj (h.symm.trans (by rfl))
  exact xT_in 791 (by rfl) rfl⟩
set_option maxRecDepth 100000 in
theorem xlX6_141 : (118 = 0 → Cond.methodLink KX6.1 141 Lib.Math.min.name ∈ xTs ∧ Cond.static Lib.Math.min.name ∈ xTs ∧ Cond.initialized "java/lang/Math" ∈ xTs ∧ Cond.code Lib.Math.min.name Lib.Math.min.code 2 (some .int) ∈ xTs) ∧ (118 ≠ 0 → ∀ M, xnth xMs 118 = some M → Cond.methodLink KX6.1 141 M.1 ∈ xTs) := ⟨fun h => absurd h (by decide), fun _ M h => by
  obtain rfl : M = mX6_shifted := Option.some.inj (h.symm.trans (by rfl))
  exact xT_in 795 (by rfl) rfl⟩
set_option maxRecDepth 100000 in
theorem xlX6_151 : (101 = 0 → Cond.methodLink KX6.1 151 Lib.Math.min.name ∈ xTs ∧ Cond.static Lib.Math.min.name ∈ xTs ∧ Cond.initialized "java/lang/Math" ∈ xTs ∧ Cond.code Lib.Math.min.name Lib.Math.min.code 2 (some .int) ∈ xTs) ∧ (101 ≠ 0 → ∀ M, xnth xMs 101 = some M → Cond.methodLink KX6.1 151 M.1 ∈ xTs) := ⟨fun h => absurd h (by decide), fun _ M h => by
  obtain rfl : M = mX6_areSlides := Option.some.inj (h.symm.trans (by rfl))
  exact xT_in 814 (by rfl) rfl⟩
set_option maxRecDepth 100000 in
theorem xlX6_154 : (120 = 0 → Cond.methodLink KX6.1 154 Lib.Math.min.name ∈ xTs ∧ Cond.static Lib.Math.min.name ∈ xTs ∧ Cond.initialized "java/lang/Math" ∈ xTs ∧ Cond.code Lib.Math.min.name Lib.Math.min.code 2 (some .int) ∈ xTs) ∧ (120 ≠ 0 → ∀ M, xnth xMs 120 = some M → Cond.methodLink KX6.1 154 M.1 ∈ xTs) := ⟨fun h => absurd h (by decide), fun _ M h => by
  obtain rfl : M = mX6_laid := Option.some.inj (h.symm.trans (by rfl))
  exact xT_in 818 (by rfl) rfl⟩
set_option maxRecDepth 100000 in
theorem xlX6_160 : (127 = 0 → Cond.methodLink KX6.1 160 Lib.Math.min.name ∈ xTs ∧ Cond.static Lib.Math.min.name ∈ xTs ∧ Cond.initialized "java/lang/Math" ∈ xTs ∧ Cond.code Lib.Math.min.name Lib.Math.min.code 2 (some .int) ∈ xTs) ∧ (127 ≠ 0 → ∀ M, xnth xMs 127 = some M → Cond.methodLink KX6.1 160 M.1 ∈ xTs) := ⟨fun h => absurd h (by decide), fun _ M h => by
  obtain rfl : M = mX6_isShow := Option.some.inj (h.symm.trans (by rfl))
  exact xT_in 826 (by rfl) rfl⟩
set_option maxRecDepth 100000 in
theorem xlX6_157 : (115 = 0 → Cond.methodLink KX6.1 157 Lib.Math.min.name ∈ xTs ∧ Cond.static Lib.Math.min.name ∈ xTs ∧ Cond.initialized "java/lang/Math" ∈ xTs ∧ Cond.code Lib.Math.min.name Lib.Math.min.code 2 (some .int) ∈ xTs) ∧ (115 ≠ 0 → ∀ M, xnth xMs 115 = some M → Cond.methodLink KX6.1 157 M.1 ∈ xTs) := ⟨fun h => absurd h (by decide), fun _ M h => by
  obtain rfl : M = mX6_bits := Option.some.inj (h.symm.trans (by rfl))
  exact xT_in 830 (by rfl) rfl⟩
set_option maxRecDepth 100000 in
theorem xlX6_163 : (126 = 0 → Cond.methodLink KX6.1 163 Lib.Math.min.name ∈ xTs ∧ Cond.static Lib.Math.min.name ∈ xTs ∧ Cond.initialized "java/lang/Math" ∈ xTs ∧ Cond.code Lib.Math.min.name Lib.Math.min.code 2 (some .int) ∈ xTs) ∧ (126 ≠ 0 → ∀ M, xnth xMs 126 = some M → Cond.methodLink KX6.1 163 M.1 ∈ xTs) := ⟨fun h => absurd h (by decide), fun _ M h => by
  obtain rfl : M = mX6_projects := Option.some.inj (h.symm.trans (by rfl))
  exact xT_in 833 (by rfl) rfl⟩
set_option maxRecDepth 100000 in
theorem xlX6_167 : (129 = 0 → Cond.methodLink KX6.1 167 Lib.Math.min.name ∈ xTs ∧ Cond.static Lib.Math.min.name ∈ xTs ∧ Cond.initialized "java/lang/Math" ∈ xTs ∧ Cond.code Lib.Math.min.name Lib.Math.min.code 2 (some .int) ∈ xTs) ∧ (129 ≠ 0 → ∀ M, xnth xMs 129 = some M → Cond.methodLink KX6.1 167 M.1 ∈ xTs) := ⟨fun h => absurd h (by decide), fun _ M h => by
  obtain rfl : M = mX6_groups := Option.some.inj (h.symm.trans (by rfl))
  exact xT_in 841 (by rfl) rfl⟩
set_option maxRecDepth 100000 in
theorem xlX6_195 : (134 = 0 → Cond.methodLink KX6.1 195 Lib.Math.min.name ∈ xTs ∧ Cond.static Lib.Math.min.name ∈ xTs ∧ Cond.initialized "java/lang/Math" ∈ xTs ∧ Cond.code Lib.Math.min.name Lib.Math.min.code 2 (some .int) ∈ xTs) ∧ (134 ≠ 0 → ∀ M, xnth xMs 134 = some M → Cond.methodLink KX6.1 195 M.1 ∈ xTs) := ⟨fun h => absurd h (by decide), fun _ M h => by
  obtain rfl : M = mX6_findShown := Option.some.inj (h.symm.trans (by rfl))
  exact xT_in 853 (by rfl) rfl⟩
set_option maxRecDepth 100000 in
theorem xlX6_188 : (133 = 0 → Cond.methodLink KX6.1 188 Lib.Math.min.name ∈ xTs ∧ Cond.static Lib.Math.min.name ∈ xTs ∧ Cond.initialized "java/lang/Math" ∈ xTs ∧ Cond.code Lib.Math.min.name Lib.Math.min.code 2 (some .int) ∈ xTs) ∧ (133 ≠ 0 → ∀ M, xnth xMs 133 = some M → Cond.methodLink KX6.1 188 M.1 ∈ xTs) := ⟨fun h => absurd h (by decide), fun _ M h => by
  obtain rfl : M = mX6_tellsShown := Option.some.inj (h.symm.trans (by rfl))
  exact xT_in 857 (by rfl) rfl⟩
set_option maxRecDepth 100000 in
theorem xlX6_192 : (132 = 0 → Cond.methodLink KX6.1 192 Lib.Math.min.name ∈ xTs ∧ Cond.static Lib.Math.min.name ∈ xTs ∧ Cond.initialized "java/lang/Math" ∈ xTs ∧ Cond.code Lib.Math.min.name Lib.Math.min.code 2 (some .int) ∈ xTs) ∧ (132 ≠ 0 → ∀ M, xnth xMs 132 = some M → Cond.methodLink KX6.1 192 M.1 ∈ xTs) := ⟨fun h => absurd h (by decide), fun _ M h => by
  obtain rfl : M = mX6_pricesOf := Option.some.inj (h.symm.trans (by rfl))
  exact xT_in 861 (by rfl) rfl⟩
set_option maxRecDepth 100000 in
theorem xlX6_199 : (138 = 0 → Cond.methodLink KX6.1 199 Lib.Math.min.name ∈ xTs ∧ Cond.static Lib.Math.min.name ∈ xTs ∧ Cond.initialized "java/lang/Math" ∈ xTs ∧ Cond.code Lib.Math.min.name Lib.Math.min.code 2 (some .int) ∈ xTs) ∧ (138 ≠ 0 → ∀ M, xnth xMs 138 = some M → Cond.methodLink KX6.1 199 M.1 ∈ xTs) := ⟨fun h => absurd h (by decide), fun _ M h => by
  obtain rfl : M = mX6_canWithout := Option.some.inj (h.symm.trans (by rfl))
  exact xT_in 877 (by rfl) rfl⟩
set_option maxRecDepth 100000 in
theorem xlX6_202 : (141 = 0 → Cond.methodLink KX6.1 202 Lib.Math.min.name ∈ xTs ∧ Cond.static Lib.Math.min.name ∈ xTs ∧ Cond.initialized "java/lang/Math" ∈ xTs ∧ Cond.code Lib.Math.min.name Lib.Math.min.code 2 (some .int) ∈ xTs) ∧ (141 ≠ 0 → ∀ M, xnth xMs 141 = some M → Cond.methodLink KX6.1 202 M.1 ∈ xTs) := ⟨fun h => absurd h (by decide), fun _ M h => by
  obtain rfl : M = mX6_notAsked := Option.some.inj (h.symm.trans (by rfl))
  exact xT_in 889 (by rfl) rfl⟩
set_option maxRecDepth 100000 in
theorem xlX6_206 : (97 = 0 → Cond.methodLink KX6.1 206 Lib.Math.min.name ∈ xTs ∧ Cond.static Lib.Math.min.name ∈ xTs ∧ Cond.initialized "java/lang/Math" ∈ xTs ∧ Cond.code Lib.Math.min.name Lib.Math.min.code 2 (some .int) ∈ xTs) ∧ (97 ≠ 0 → ∀ M, xnth xMs 97 = some M → Cond.methodLink KX6.1 206 M.1 ∈ xTs) := ⟨fun h => absurd h (by decide), fun _ M h => by
  obtain rfl : M = mX6_lowest := Option.some.inj (h.symm.trans (by rfl))
  exact xT_in 901 (by rfl) rfl⟩
set_option maxRecDepth 100000 in
theorem xlX6_212 : (144 = 0 → Cond.methodLink KX6.1 212 Lib.Math.min.name ∈ xTs ∧ Cond.static Lib.Math.min.name ∈ xTs ∧ Cond.initialized "java/lang/Math" ∈ xTs ∧ Cond.code Lib.Math.min.name Lib.Math.min.code 2 (some .int) ∈ xTs) ∧ (144 ≠ 0 → ∀ M, xnth xMs 144 = some M → Cond.methodLink KX6.1 212 M.1 ∈ xTs) := ⟨fun h => absurd h (by decide), fun _ M h => by
  obtain rfl : M = mX6_divisor := Option.some.inj (h.symm.trans (by rfl))
  exact xT_in 907 (by rfl) rfl⟩
set_option maxRecDepth 100000 in
theorem xlX6_223 : (146 = 0 → Cond.methodLink KX6.1 223 Lib.Math.min.name ∈ xTs ∧ Cond.static Lib.Math.min.name ∈ xTs ∧ Cond.initialized "java/lang/Math" ∈ xTs ∧ Cond.code Lib.Math.min.name Lib.Math.min.code 2 (some .int) ∈ xTs) ∧ (146 ≠ 0 → ∀ M, xnth xMs 146 = some M → Cond.methodLink KX6.1 223 M.1 ∈ xTs) := ⟨fun h => absurd h (by decide), fun _ M h => by
  obtain rfl : M = mX6_findAsked := Option.some.inj (h.symm.trans (by rfl))
  exact xT_in 914 (by rfl) rfl⟩
set_option maxRecDepth 100000 in
theorem xlX6_216 : (147 = 0 → Cond.methodLink KX6.1 216 Lib.Math.min.name ∈ xTs ∧ Cond.static Lib.Math.min.name ∈ xTs ∧ Cond.initialized "java/lang/Math" ∈ xTs ∧ Cond.code Lib.Math.min.name Lib.Math.min.code 2 (some .int) ∈ xTs) ∧ (147 ≠ 0 → ∀ M, xnth xMs 147 = some M → Cond.methodLink KX6.1 216 M.1 ∈ xTs) := ⟨fun h => absurd h (by decide), fun _ M h => by
  obtain rfl : M = mX6_placeOf := Option.some.inj (h.symm.trans (by rfl))
  exact xT_in 918 (by rfl) rfl⟩
set_option maxRecDepth 100000 in
theorem xlX6_219 : (148 = 0 → Cond.methodLink KX6.1 219 Lib.Math.min.name ∈ xTs ∧ Cond.static Lib.Math.min.name ∈ xTs ∧ Cond.initialized "java/lang/Math" ∈ xTs ∧ Cond.code Lib.Math.min.name Lib.Math.min.code 2 (some .int) ∈ xTs) ∧ (148 ≠ 0 → ∀ M, xnth xMs 148 = some M → Cond.methodLink KX6.1 219 M.1 ∈ xTs) := ⟨fun h => absurd h (by decide), fun _ M h => by
  obtain rfl : M = mX6_lowers := Option.some.inj (h.symm.trans (by rfl))
  exact xT_in 921 (by rfl) rfl⟩
set_option maxRecDepth 100000 in
theorem xlX6_226 : (149 = 0 → Cond.methodLink KX6.1 226 Lib.Math.min.name ∈ xTs ∧ Cond.static Lib.Math.min.name ∈ xTs ∧ Cond.initialized "java/lang/Math" ∈ xTs ∧ Cond.code Lib.Math.min.name Lib.Math.min.code 2 (some .int) ∈ xTs) ∧ (149 ≠ 0 → ∀ M, xnth xMs 149 = some M → Cond.methodLink KX6.1 226 M.1 ∈ xTs) := ⟨fun h => absurd h (by decide), fun _ M h => by
  obtain rfl : M = mX6_goesFrom := Option.some.inj (h.symm.trans (by rfl))
  exact xT_in 925 (by rfl) rfl⟩
set_option maxRecDepth 100000 in
theorem xlX6_233 : (152 = 0 → Cond.methodLink KX6.1 233 Lib.Math.min.name ∈ xTs ∧ Cond.static Lib.Math.min.name ∈ xTs ∧ Cond.initialized "java/lang/Math" ∈ xTs ∧ Cond.code Lib.Math.min.name Lib.Math.min.code 2 (some .int) ∈ xTs) ∧ (152 ≠ 0 → ∀ M, xnth xMs 152 = some M → Cond.methodLink KX6.1 233 M.1 ∈ xTs) := ⟨fun h => absurd h (by decide), fun _ M h => by
  obtain rfl : M = mX6_isWish := Option.some.inj (h.symm.trans (by rfl))
  exact xT_in 937 (by rfl) rfl⟩
set_option maxRecDepth 100000 in
theorem okX6 : xCOk xTs xnl xMs KX6 := ⟨List.forall_mem_cons.mpr ⟨xfX6_7, List.forall_mem_cons.mpr ⟨xfX6_13, List.forall_mem_cons.mpr ⟨xfX6_16, List.forall_mem_cons.mpr ⟨xfX6_19, List.forall_mem_cons.mpr ⟨xfX6_22, List.forall_mem_cons.mpr ⟨xfX6_25, List.forall_mem_cons.mpr ⟨xfX6_28, List.forall_mem_cons.mpr ⟨xfX6_64, List.forall_mem_cons.mpr ⟨xfX6_103, List.forall_mem_cons.mpr ⟨xfX6_31, List.forall_mem_cons.mpr ⟨xfX6_35, List.forall_mem_cons.mpr ⟨xfX6_38, List.forall_mem_cons.mpr ⟨xfX6_41, List.forall_mem_cons.mpr ⟨xfX6_44, List.forall_mem_cons.mpr ⟨xfX6_71, List.forall_mem_cons.mpr ⟨xfX6_78, List.forall_mem_cons.mpr ⟨xfX6_97, List.forall_mem_cons.mpr ⟨xfX6_47, List.forall_mem_cons.mpr ⟨xfX6_131, List.forall_mem_cons.mpr ⟨xfX6_117, List.forall_mem_cons.mpr ⟨xfX6_121, List.forall_mem_cons.mpr ⟨xfX6_170, List.forall_mem_cons.mpr ⟨xfX6_173, List.forall_mem_cons.mpr ⟨xfX6_176, List.forall_mem_cons.mpr ⟨xfX6_179, List.forall_mem_cons.mpr ⟨xfX6_182, List.forall_mem_cons.mpr ⟨xfX6_185, List.forall_mem_cons.mpr ⟨xfX6_50, List.forall_mem_cons.mpr ⟨xfX6_53, List.forall_mem_cons.mpr ⟨xfX6_56, List.forall_mem_cons.mpr ⟨xfX6_59, List.forall_mem_cons.mpr ⟨xfX6_230, fun _ h => absurd h List.not_mem_nil⟩⟩⟩⟩⟩⟩⟩⟩⟩⟩⟩⟩⟩⟩⟩⟩⟩⟩⟩⟩⟩⟩⟩⟩⟩⟩⟩⟩⟩⟩⟩⟩, List.forall_mem_cons.mpr ⟨xT_in 794 (by rfl) rfl, List.forall_mem_cons.mpr ⟨xT_in 844 (by rfl) rfl, List.forall_mem_cons.mpr ⟨xT_in 945 (by rfl) rfl, List.forall_mem_cons.mpr ⟨xT_in 946 (by rfl) rfl, List.forall_mem_cons.mpr ⟨xT_in 947 (by rfl) rfl, fun _ h => absurd h List.not_mem_nil⟩⟩⟩⟩⟩, List.forall_mem_cons.mpr ⟨xT_in 905 (by rfl) rfl, List.forall_mem_cons.mpr ⟨xT_in 906 (by rfl) rfl, fun _ h => absurd h List.not_mem_nil⟩⟩, List.forall_mem_cons.mpr ⟨xlX6_67, List.forall_mem_cons.mpr ⟨xlX6_74, List.forall_mem_cons.mpr ⟨xlX6_106, List.forall_mem_cons.mpr ⟨xlX6_81, List.forall_mem_cons.mpr ⟨xlX6_100, List.forall_mem_cons.mpr ⟨xlX6_89, List.forall_mem_cons.mpr ⟨xlX6_85, List.forall_mem_cons.mpr ⟨xlX6_93, List.forall_mem_cons.mpr ⟨xlX6_110, List.forall_mem_cons.mpr ⟨xlX6_124, List.forall_mem_cons.mpr ⟨xlX6_128, List.forall_mem_cons.mpr ⟨xlX6_114, List.forall_mem_cons.mpr ⟨xlX6_148, List.forall_mem_cons.mpr ⟨xlX6_145, List.forall_mem_cons.mpr ⟨xlX6_134, List.forall_mem_cons.mpr ⟨xlX6_137, List.forall_mem_cons.mpr ⟨xlX6_141, List.forall_mem_cons.mpr ⟨xlX6_151, List.forall_mem_cons.mpr ⟨xlX6_154, List.forall_mem_cons.mpr ⟨xlX6_160, List.forall_mem_cons.mpr ⟨xlX6_157, List.forall_mem_cons.mpr ⟨xlX6_163, List.forall_mem_cons.mpr ⟨xlX6_167, List.forall_mem_cons.mpr ⟨xlX6_195, List.forall_mem_cons.mpr ⟨xlX6_188, List.forall_mem_cons.mpr ⟨xlX6_192, List.forall_mem_cons.mpr ⟨xlX6_199, List.forall_mem_cons.mpr ⟨xlX6_202, List.forall_mem_cons.mpr ⟨xlX6_206, List.forall_mem_cons.mpr ⟨xlX6_212, List.forall_mem_cons.mpr ⟨xlX6_223, List.forall_mem_cons.mpr ⟨xlX6_216, List.forall_mem_cons.mpr ⟨xlX6_219, List.forall_mem_cons.mpr ⟨xlX6_226, List.forall_mem_cons.mpr ⟨xlX6_233, fun _ h => absurd h List.not_mem_nil⟩⟩⟩⟩⟩⟩⟩⟩⟩⟩⟩⟩⟩⟩⟩⟩⟩⟩⟩⟩⟩⟩⟩⟩⟩⟩⟩⟩⟩⟩⟩⟩⟩⟩⟩⟩
set_option maxRecDepth 100000 in
theorem oX0_mirrored : xMOk xTs xnl xMs mX0_mirrored := ⟨by decide +kernel, xT_in 325 (by rfl) rfl, by decide, by decide +kernel, rfl, xT_in 56 (by rfl) rfl, fun _ => xT_in 324 (by rfl) rfl, fun h => absurd h (by decide), ⟨by decide +kernel, by decide +kernel⟩, okX0⟩
set_option maxRecDepth 100000 in
theorem oX0_flipped : xMOk xTs xnl xMs mX0_flipped := ⟨by decide +kernel, xT_in 330 (by rfl) rfl, by decide, by decide +kernel, rfl, xT_in 56 (by rfl) rfl, fun _ => xT_in 329 (by rfl) rfl, fun h => absurd h (by decide), ⟨by decide +kernel, by decide +kernel⟩, okX0⟩
set_option maxRecDepth 100000 in
theorem oX0_shifted : xMOk xTs xnl xMs mX0_shifted := ⟨by decide +kernel, xT_in 340 (by rfl) rfl, by decide, by decide +kernel, rfl, xT_in 56 (by rfl) rfl, fun _ => xT_in 339 (by rfl) rfl, fun h => absurd h (by decide), ⟨by decide +kernel, by decide +kernel⟩, okX0⟩
set_option maxRecDepth 100000 in
theorem oX0_grown : xMOk xTs xnl xMs mX0_grown := ⟨by decide +kernel, xT_in 425 (by rfl) rfl, by decide, by decide +kernel, rfl, xT_in 56 (by rfl) rfl, fun _ => xT_in 424 (by rfl) rfl, fun h => absurd h (by decide), ⟨by decide +kernel, by decide +kernel⟩, okX0⟩
set_option maxRecDepth 100000 in
theorem oX0_groups : xMOk xTs xnl xMs mX0_groups := ⟨by decide +kernel, xT_in 422 (by rfl) rfl, by decide, by decide +kernel, rfl, xT_in 56 (by rfl) rfl, fun _ => xT_in 421 (by rfl) rfl, fun h => absurd h (by decide), ⟨by decide +kernel, by decide +kernel⟩, okX0⟩
set_option maxRecDepth 100000 in
theorem oX1_becomes : xMOk xTs xnl xMs mX1_becomes := ⟨by decide +kernel, xT_in 255 (by rfl) rfl, by decide, by decide +kernel, rfl, xT_in 51 (by rfl) rfl, fun h => absurd h (by decide), fun _ => ⟨xT_in 253 (by rfl) rfl, xT_in 254 (by rfl) rfl⟩, ⟨by decide +kernel, by decide +kernel⟩, okX1⟩
set_option maxRecDepth 100000 in
theorem oX1_addsSlide : xMOk xTs xnl xMs mX1_addsSlide := ⟨by decide +kernel, xT_in 283 (by rfl) rfl, by decide, by decide +kernel, rfl, xT_in 51 (by rfl) rfl, fun h => absurd h (by decide), fun _ => ⟨xT_in 281 (by rfl) rfl, xT_in 282 (by rfl) rfl⟩, ⟨by decide +kernel, by decide +kernel⟩, okX1⟩
set_option maxRecDepth 100000 in
theorem oX1_addsWanted : xMOk xTs xnl xMs mX1_addsWanted := ⟨by decide +kernel, xT_in 287 (by rfl) rfl, by decide, by decide +kernel, rfl, xT_in 51 (by rfl) rfl, fun h => absurd h (by decide), fun _ => ⟨xT_in 285 (by rfl) rfl, xT_in 286 (by rfl) rfl⟩, ⟨by decide +kernel, by decide +kernel⟩, okX1⟩
set_option maxRecDepth 100000 in
theorem oX1_heats : xMOk xTs xnl xMs mX1_heats := ⟨by decide +kernel, xT_in 291 (by rfl) rfl, by decide, by decide +kernel, rfl, xT_in 51 (by rfl) rfl, fun h => absurd h (by decide), fun _ => ⟨xT_in 289 (by rfl) rfl, xT_in 290 (by rfl) rfl⟩, ⟨by decide +kernel, by decide +kernel⟩, okX1⟩
set_option maxRecDepth 100000 in
theorem oX1_has : xMOk xTs xnl xMs mX1_has := ⟨by decide +kernel, xT_in 307 (by rfl) rfl, by decide, by decide +kernel, rfl, xT_in 51 (by rfl) rfl, fun h => absurd h (by decide), fun _ => ⟨xT_in 305 (by rfl) rfl, xT_in 306 (by rfl) rfl⟩, ⟨by decide +kernel, by decide +kernel⟩, okX1⟩
set_option maxRecDepth 100000 in
theorem oX1_hasAll : xMOk xTs xnl xMs mX1_hasAll := ⟨by decide +kernel, xT_in 379 (by rfl) rfl, by decide, by decide +kernel, rfl, xT_in 51 (by rfl) rfl, fun h => absurd h (by decide), fun _ => ⟨xT_in 377 (by rfl) rfl, xT_in 378 (by rfl) rfl⟩, ⟨by decide +kernel, by decide +kernel⟩, okX1⟩
set_option maxRecDepth 100000 in
theorem oX1_hasWanted : xMOk xTs xnl xMs mX1_hasWanted := ⟨by decide +kernel, xT_in 350 (by rfl) rfl, by decide, by decide +kernel, rfl, xT_in 51 (by rfl) rfl, fun h => absurd h (by decide), fun _ => ⟨xT_in 348 (by rfl) rfl, xT_in 349 (by rfl) rfl⟩, ⟨by decide +kernel, by decide +kernel⟩, okX1⟩
set_option maxRecDepth 100000 in
theorem oJ6_bitCount_0f7a4 : xMOk xTs xnl xMs mJ6_bitCount_0f7a4 := ⟨by decide +kernel, xT_in 395 (by rfl) rfl, by decide, by decide +kernel, rfl, xT_in 57 (by rfl) rfl, fun _ => xT_in 394 (by rfl) rfl, fun h => absurd h (by decide), ⟨by decide +kernel, by decide +kernel⟩, okJ6⟩
set_option maxRecDepth 100000 in
theorem oX1_isProjectable : xMOk xTs xnl xMs mX1_isProjectable := ⟨by decide +kernel, xT_in 391 (by rfl) rfl, by decide, by decide +kernel, rfl, xT_in 51 (by rfl) rfl, fun h => absurd h (by decide), fun _ => ⟨xT_in 389 (by rfl) rfl, xT_in 390 (by rfl) rfl⟩, ⟨by decide +kernel, by decide +kernel⟩, okX1⟩
set_option maxRecDepth 100000 in
theorem oX1_isWanted : xMOk xTs xnl xMs mX1_isWanted := ⟨by decide +kernel, xT_in 577 (by rfl) rfl, by decide, by decide +kernel, rfl, xT_in 51 (by rfl) rfl, fun h => absurd h (by decide), fun _ => ⟨xT_in 575 (by rfl) rfl, xT_in 576 (by rfl) rfl⟩, ⟨by decide +kernel, by decide +kernel⟩, okX1⟩
set_option maxRecDepth 100000 in
theorem oX1_wantedPicture : xMOk xTs xnl xMs mX1_wantedPicture := ⟨by decide +kernel, xT_in 354 (by rfl) rfl, by decide, by decide +kernel, rfl, xT_in 51 (by rfl) rfl, fun h => absurd h (by decide), fun _ => ⟨xT_in 352 (by rfl) rfl, xT_in 353 (by rfl) rfl⟩, ⟨by decide +kernel, by decide +kernel⟩, okX1⟩
set_option maxRecDepth 100000 in
theorem oX1_cracked : xMOk xTs xnl xMs mX1_cracked := ⟨by decide +kernel, xT_in 337 (by rfl) rfl, by decide, by decide +kernel, rfl, xT_in 51 (by rfl) rfl, fun h => absurd h (by decide), fun _ => ⟨xT_in 336 (by rfl) rfl, xT_in 7 (by rfl) rfl⟩, ⟨by decide +kernel, by decide +kernel⟩, okX1⟩
set_option maxRecDepth 100000 in
theorem oX1_onSlide : xMOk xTs xnl xMs mX1_onSlide := ⟨by decide +kernel, xT_in 322 (by rfl) rfl, by decide, by decide +kernel, rfl, xT_in 51 (by rfl) rfl, fun h => absurd h (by decide), fun _ => ⟨xT_in 320 (by rfl) rfl, xT_in 321 (by rfl) rfl⟩, ⟨by decide +kernel, by decide +kernel⟩, okX1⟩
set_option maxRecDepth 100000 in
theorem oX1_told : xMOk xTs xnl xMs mX1_told := ⟨by decide +kernel, xT_in 317 (by rfl) rfl, by decide, by decide +kernel, rfl, xT_in 51 (by rfl) rfl, fun h => absurd h (by decide), fun _ => ⟨xT_in 315 (by rfl) rfl, xT_in 316 (by rfl) rfl⟩, ⟨by decide +kernel, by decide +kernel⟩, okX1⟩
set_option maxRecDepth 100000 in
theorem oX1_repriced : xMOk xTs xnl xMs mX1_repriced := ⟨by decide +kernel, xT_in 367 (by rfl) rfl, by decide, by decide +kernel, rfl, xT_in 51 (by rfl) rfl, fun h => absurd h (by decide), fun _ => ⟨xT_in 365 (by rfl) rfl, xT_in 366 (by rfl) rfl⟩, ⟨by decide +kernel, by decide +kernel⟩, okX1⟩
set_option maxRecDepth 100000 in
theorem oX1_laid : xMOk xTs xnl xMs mX1_laid := ⟨by decide +kernel, xT_in 383 (by rfl) rfl, by decide, by decide +kernel, rfl, xT_in 51 (by rfl) rfl, fun h => absurd h (by decide), fun _ => ⟨xT_in 381 (by rfl) rfl, xT_in 382 (by rfl) rfl⟩, ⟨by decide +kernel, by decide +kernel⟩, okX1⟩
set_option maxRecDepth 100000 in
theorem oX1_wear : xMOk xTs xnl xMs mX1_wear := ⟨by decide +kernel, xT_in 407 (by rfl) rfl, by decide, by decide +kernel, rfl, xT_in 51 (by rfl) rfl, fun h => absurd h (by decide), fun _ => ⟨xT_in 406 (by rfl) rfl, xT_in 9 (by rfl) rfl⟩, ⟨by decide +kernel, by decide +kernel⟩, okX1⟩
set_option maxRecDepth 100000 in
theorem oX1_projected : xMOk xTs xnl xMs mX1_projected := ⟨by decide +kernel, xT_in 402 (by rfl) rfl, by decide, by decide +kernel, rfl, xT_in 51 (by rfl) rfl, fun h => absurd h (by decide), fun _ => ⟨xT_in 400 (by rfl) rfl, xT_in 401 (by rfl) rfl⟩, ⟨by decide +kernel, by decide +kernel⟩, okX1⟩
set_option maxRecDepth 100000 in
theorem oX1_nearestWanted : xMOk xTs xnl xMs mX1_nearestWanted := ⟨by decide +kernel, xT_in 433 (by rfl) rfl, by decide, by decide +kernel, rfl, xT_in 51 (by rfl) rfl, fun h => absurd h (by decide), fun _ => ⟨xT_in 431 (by rfl) rfl, xT_in 432 (by rfl) rfl⟩, ⟨by decide +kernel, by decide +kernel⟩, okX1⟩
set_option maxRecDepth 100000 in
theorem oX1_cracksToShow : xMOk xTs xnl xMs mX1_cracksToShow := ⟨by decide +kernel, xT_in 521 (by rfl) rfl, by decide, by decide +kernel, rfl, xT_in 51 (by rfl) rfl, fun h => absurd h (by decide), fun _ => ⟨xT_in 519 (by rfl) rfl, xT_in 520 (by rfl) rfl⟩, ⟨by decide +kernel, by decide +kernel⟩, okX1⟩
set_option maxRecDepth 100000 in
theorem oX1_allUses : xMOk xTs xnl xMs mX1_allUses := ⟨by decide +kernel, xT_in 606 (by rfl) rfl, by decide, by decide +kernel, rfl, xT_in 51 (by rfl) rfl, fun h => absurd h (by decide), fun _ => ⟨xT_in 604 (by rfl) rfl, xT_in 605 (by rfl) rfl⟩, ⟨by decide +kernel, by decide +kernel⟩, okX1⟩
set_option maxRecDepth 100000 in
theorem oX1_allPrices : xMOk xTs xnl xMs mX1_allPrices := ⟨by decide +kernel, xT_in 610 (by rfl) rfl, by decide, by decide +kernel, rfl, xT_in 51 (by rfl) rfl, fun h => absurd h (by decide), fun _ => ⟨xT_in 608 (by rfl) rfl, xT_in 609 (by rfl) rfl⟩, ⟨by decide +kernel, by decide +kernel⟩, okX1⟩
set_option maxRecDepth 100000 in
theorem oX2_isFull : xMOk xTs xnl xMs mX2_isFull := ⟨by decide +kernel, xT_in 225 (by rfl) rfl, by decide, by decide +kernel, rfl, xT_in 52 (by rfl) rfl, fun h => absurd h (by decide), fun _ => ⟨xT_in 223 (by rfl) rfl, xT_in 224 (by rfl) rfl⟩, ⟨by decide +kernel, by decide +kernel⟩, okX2⟩
set_option maxRecDepth 100000 in
theorem oX2_taken : xMOk xTs xnl xMs mX2_taken := ⟨by decide +kernel, xT_in 233 (by rfl) rfl, by decide, by decide +kernel, rfl, xT_in 52 (by rfl) rfl, fun h => absurd h (by decide), fun _ => ⟨xT_in 231 (by rfl) rfl, xT_in 232 (by rfl) rfl⟩, ⟨by decide +kernel, by decide +kernel⟩, okX2⟩
set_option maxRecDepth 100000 in
theorem oX2_forget : xMOk xTs xnl xMs mX2_forget := ⟨by decide +kernel, xT_in 295 (by rfl) rfl, by decide, by decide +kernel, rfl, xT_in 52 (by rfl) rfl, fun h => absurd h (by decide), fun _ => ⟨xT_in 293 (by rfl) rfl, xT_in 294 (by rfl) rfl⟩, ⟨by decide +kernel, by decide +kernel⟩, okX2⟩
set_option maxRecDepth 100000 in
theorem oX2_stateOpened : xMOk xTs xnl xMs mX2_stateOpened := ⟨by decide +kernel, xT_in 248 (by rfl) rfl, by decide, by decide +kernel, rfl, xT_in 52 (by rfl) rfl, fun _ => xT_in 247 (by rfl) rfl, fun h => absurd h (by decide), ⟨by decide +kernel, by decide +kernel⟩, okX2⟩
set_option maxRecDepth 100000 in
theorem oX2_isDigit : xMOk xTs xnl xMs mX2_isDigit := ⟨by decide +kernel, xT_in 251 (by rfl) rfl, by decide, by decide +kernel, rfl, xT_in 52 (by rfl) rfl, fun _ => xT_in 250 (by rfl) rfl, fun h => absurd h (by decide), ⟨by decide +kernel, by decide +kernel⟩, okX2⟩
set_option maxRecDepth 100000 in
theorem oX2_stateBehind : xMOk xTs xnl xMs mX2_stateBehind := ⟨by decide +kernel, xT_in 245 (by rfl) rfl, by decide, by decide +kernel, rfl, xT_in 52 (by rfl) rfl, fun _ => xT_in 244 (by rfl) rfl, fun h => absurd h (by decide), ⟨by decide +kernel, by decide +kernel⟩, okX2⟩
set_option maxRecDepth 100000 in
theorem oX2_fault : xMOk xTs xnl xMs mX2_fault := ⟨by decide +kernel, xT_in 242 (by rfl) rfl, by decide, by decide +kernel, rfl, xT_in 52 (by rfl) rfl, fun h => absurd h (by decide), fun _ => ⟨xT_in 240 (by rfl) rfl, xT_in 241 (by rfl) rfl⟩, ⟨by decide +kernel, by decide +kernel⟩, okX2⟩
set_option maxRecDepth 100000 in
theorem oX2_signAt : xMOk xTs xnl xMs mX2_signAt := ⟨by decide +kernel, xT_in 267 (by rfl) rfl, by decide, by decide +kernel, rfl, xT_in 52 (by rfl) rfl, fun h => absurd h (by decide), fun _ => ⟨xT_in 266 (by rfl) rfl, xT_in 2 (by rfl) rfl⟩, ⟨by decide +kernel, by decide +kernel⟩, okX2⟩
set_option maxRecDepth 100000 in
theorem oX2_digit : xMOk xTs xnl xMs mX2_digit := ⟨by decide +kernel, xT_in 275 (by rfl) rfl, by decide, by decide +kernel, rfl, xT_in 52 (by rfl) rfl, fun h => absurd h (by decide), fun _ => ⟨xT_in 274 (by rfl) rfl, xT_in 4 (by rfl) rfl⟩, ⟨by decide +kernel, by decide +kernel⟩, okX2⟩
set_option maxRecDepth 100000 in
theorem oX2_number : xMOk xTs xnl xMs mX2_number := ⟨by decide +kernel, xT_in 271 (by rfl) rfl, by decide, by decide +kernel, rfl, xT_in 52 (by rfl) rfl, fun h => absurd h (by decide), fun _ => ⟨xT_in 270 (by rfl) rfl, xT_in 3 (by rfl) rfl⟩, ⟨by decide +kernel, by decide +kernel⟩, okX2⟩
set_option maxRecDepth 100000 in
theorem oX2_pictureBefore : xMOk xTs xnl xMs mX2_pictureBefore := ⟨by decide +kernel, xT_in 279 (by rfl) rfl, by decide, by decide +kernel, rfl, xT_in 52 (by rfl) rfl, fun h => absurd h (by decide), fun _ => ⟨xT_in 278 (by rfl) rfl, xT_in 5 (by rfl) rfl⟩, ⟨by decide +kernel, by decide +kernel⟩, okX2⟩
set_option maxRecDepth 100000 in
theorem oX2_statementComes : xMOk xTs xnl xMs mX2_statementComes := ⟨by decide +kernel, xT_in 263 (by rfl) rfl, by decide, by decide +kernel, rfl, xT_in 52 (by rfl) rfl, fun h => absurd h (by decide), fun _ => ⟨xT_in 262 (by rfl) rfl, xT_in 1 (by rfl) rfl⟩, ⟨by decide +kernel, by decide +kernel⟩, okX2⟩
set_option maxRecDepth 100000 in
theorem oX2_toldTo : xMOk xTs xnl xMs mX2_toldTo := ⟨by decide +kernel, xT_in 259 (by rfl) rfl, by decide, by decide +kernel, rfl, xT_in 52 (by rfl) rfl, fun h => absurd h (by decide), fun _ => ⟨xT_in 257 (by rfl) rfl, xT_in 258 (by rfl) rfl⟩, ⟨by decide +kernel, by decide +kernel⟩, okX2⟩
set_option maxRecDepth 100000 in
theorem oX3_usable : xMOk xTs xnl xMs mX3_usable := ⟨by decide +kernel, xT_in 450 (by rfl) rfl, by decide, by decide +kernel, rfl, xT_in 53 (by rfl) rfl, fun _ => xT_in 449 (by rfl) rfl, fun h => absurd h (by decide), ⟨by decide +kernel, by decide +kernel⟩, okX3⟩
set_option maxRecDepth 100000 in
theorem oX3_dark : xMOk xTs xnl xMs mX3_dark := ⟨by decide +kernel, xT_in 454 (by rfl) rfl, by decide, by decide +kernel, rfl, xT_in 53 (by rfl) rfl, fun _ => xT_in 453 (by rfl) rfl, fun h => absurd h (by decide), ⟨by decide +kernel, by decide +kernel⟩, okX3⟩
set_option maxRecDepth 100000 in
theorem oX3_load : xMOk xTs xnl xMs mX3_load := ⟨by decide +kernel, xT_in 445 (by rfl) rfl, by decide, by decide +kernel, rfl, xT_in 53 (by rfl) rfl, fun h => absurd h (by decide), fun _ => ⟨xT_in 444 (by rfl) rfl, xT_in 10 (by rfl) rfl⟩, ⟨by decide +kernel, by decide +kernel⟩, okX3⟩
set_option maxRecDepth 100000 in
theorem oX3_isOutOfReach : xMOk xTs xnl xMs mX3_isOutOfReach := ⟨by decide +kernel, xT_in 462 (by rfl) rfl, by decide, by decide +kernel, rfl, xT_in 53 (by rfl) rfl, fun h => absurd h (by decide), fun _ => ⟨xT_in 461 (by rfl) rfl, xT_in 12 (by rfl) rfl⟩, ⟨by decide +kernel, by decide +kernel⟩, okX3⟩
set_option maxRecDepth 100000 in
theorem oX3_noteFewest : xMOk xTs xnl xMs mX3_noteFewest := ⟨by decide +kernel, xT_in 467 (by rfl) rfl, by decide, by decide +kernel, rfl, xT_in 53 (by rfl) rfl, fun h => absurd h (by decide), fun _ => ⟨xT_in 466 (by rfl) rfl, xT_in 13 (by rfl) rfl⟩, ⟨by decide +kernel, by decide +kernel⟩, okX3⟩
set_option maxRecDepth 100000 in
theorem oX3_seekFewest : xMOk xTs xnl xMs mX3_seekFewest := ⟨by decide +kernel, xT_in 458 (by rfl) rfl, by decide, by decide +kernel, rfl, xT_in 53 (by rfl) rfl, fun h => absurd h (by decide), fun _ => ⟨xT_in 457 (by rfl) rfl, xT_in 11 (by rfl) rfl⟩, ⟨by decide +kernel, by decide +kernel⟩, okX3⟩
set_option maxRecDepth 100000 in
theorem oX3_findsFewest : xMOk xTs xnl xMs mX3_findsFewest := ⟨by decide +kernel, xT_in 441 (by rfl) rfl, by decide, by decide +kernel, rfl, xT_in 53 (by rfl) rfl, fun h => absurd h (by decide), fun _ => ⟨xT_in 439 (by rfl) rfl, xT_in 440 (by rfl) rfl⟩, ⟨by decide +kernel, by decide +kernel⟩, okX3⟩
set_option maxRecDepth 100000 in
theorem oX3_seekCheapest : xMOk xTs xnl xMs mX3_seekCheapest := ⟨by decide +kernel, xT_in 479 (by rfl) rfl, by decide, by decide +kernel, rfl, xT_in 53 (by rfl) rfl, fun h => absurd h (by decide), fun _ => ⟨xT_in 478 (by rfl) rfl, xT_in 14 (by rfl) rfl⟩, ⟨by decide +kernel, by decide +kernel⟩, okX3⟩
set_option maxRecDepth 100000 in
theorem oX3_leastPrice : xMOk xTs xnl xMs mX3_leastPrice := ⟨by decide +kernel, xT_in 475 (by rfl) rfl, by decide, by decide +kernel, rfl, xT_in 53 (by rfl) rfl, fun h => absurd h (by decide), fun _ => ⟨xT_in 473 (by rfl) rfl, xT_in 474 (by rfl) rfl⟩, ⟨by decide +kernel, by decide +kernel⟩, okX3⟩
set_option maxRecDepth 100000 in
theorem oX3_seekNear : xMOk xTs xnl xMs mX3_seekNear := ⟨by decide +kernel, xT_in 492 (by rfl) rfl, by decide, by decide +kernel, rfl, xT_in 53 (by rfl) rfl, fun h => absurd h (by decide), fun _ => ⟨xT_in 491 (by rfl) rfl, xT_in 15 (by rfl) rfl⟩, ⟨by decide +kernel, by decide +kernel⟩, okX3⟩
set_option maxRecDepth 100000 in
theorem oX3_leastUnlike : xMOk xTs xnl xMs mX3_leastUnlike := ⟨by decide +kernel, xT_in 487 (by rfl) rfl, by decide, by decide +kernel, rfl, xT_in 53 (by rfl) rfl, fun h => absurd h (by decide), fun _ => ⟨xT_in 485 (by rfl) rfl, xT_in 486 (by rfl) rfl⟩, ⟨by decide +kernel, by decide +kernel⟩, okX3⟩
set_option maxRecDepth 100000 in
theorem oX3_isShown : xMOk xTs xnl xMs mX3_isShown := ⟨by decide +kernel, xT_in 505 (by rfl) rfl, by decide, by decide +kernel, rfl, xT_in 53 (by rfl) rfl, fun h => absurd h (by decide), fun _ => ⟨xT_in 504 (by rfl) rfl, xT_in 16 (by rfl) rfl⟩, ⟨by decide +kernel, by decide +kernel⟩, okX3⟩
set_option maxRecDepth 100000 in
theorem oX3_showable : xMOk xTs xnl xMs mX3_showable := ⟨by decide +kernel, xT_in 500 (by rfl) rfl, by decide, by decide +kernel, rfl, xT_in 53 (by rfl) rfl, fun h => absurd h (by decide), fun _ => ⟨xT_in 498 (by rfl) rfl, xT_in 499 (by rfl) rfl⟩, ⟨by decide +kernel, by decide +kernel⟩, okX3⟩
set_option maxRecDepth 100000 in
theorem oX4_layAll : xMOk xTs xnl xMs mX4_layAll := ⟨by decide +kernel, xT_in 542 (by rfl) rfl, by decide, by decide +kernel, rfl, xT_in 54 (by rfl) rfl, fun h => absurd h (by decide), fun _ => ⟨xT_in 541 (by rfl) rfl, xT_in 17 (by rfl) rfl⟩, ⟨by decide +kernel, by decide +kernel⟩, okX4⟩
set_option maxRecDepth 100000 in
theorem oX4_isShownByOne : xMOk xTs xnl xMs mX4_isShownByOne := ⟨by decide +kernel, xT_in 552 (by rfl) rfl, by decide, by decide +kernel, rfl, xT_in 54 (by rfl) rfl, fun h => absurd h (by decide), fun _ => ⟨xT_in 551 (by rfl) rfl, xT_in 19 (by rfl) rfl⟩, ⟨by decide +kernel, by decide +kernel⟩, okX4⟩
set_option maxRecDepth 100000 in
theorem oX4_findStops : xMOk xTs xnl xMs mX4_findStops := ⟨by decide +kernel, xT_in 547 (by rfl) rfl, by decide, by decide +kernel, rfl, xT_in 54 (by rfl) rfl, fun h => absurd h (by decide), fun _ => ⟨xT_in 546 (by rfl) rfl, xT_in 18 (by rfl) rfl⟩, ⟨by decide +kernel, by decide +kernel⟩, okX4⟩
set_option maxRecDepth 100000 in
theorem oX4_arrive : xMOk xTs xnl xMs mX4_arrive := ⟨by decide +kernel, xT_in 557 (by rfl) rfl, by decide, by decide +kernel, rfl, xT_in 54 (by rfl) rfl, fun h => absurd h (by decide), fun _ => ⟨xT_in 556 (by rfl) rfl, xT_in 20 (by rfl) rfl⟩, ⟨by decide +kernel, by decide +kernel⟩, okX4⟩
set_option maxRecDepth 100000 in
theorem oX4_walk : xMOk xTs xnl xMs mX4_walk := ⟨by decide +kernel, xT_in 561 (by rfl) rfl, by decide, by decide +kernel, rfl, xT_in 54 (by rfl) rfl, fun h => absurd h (by decide), fun _ => ⟨xT_in 560 (by rfl) rfl, xT_in 21 (by rfl) rfl⟩, ⟨by decide +kernel, by decide +kernel⟩, okX4⟩
set_option maxRecDepth 100000 in
theorem oX4_leastSteps : xMOk xTs xnl xMs mX4_leastSteps := ⟨by decide +kernel, xT_in 565 (by rfl) rfl, by decide, by decide +kernel, rfl, xT_in 54 (by rfl) rfl, fun h => absurd h (by decide), fun _ => ⟨xT_in 564 (by rfl) rfl, xT_in 22 (by rfl) rfl⟩, ⟨by decide +kernel, by decide +kernel⟩, okX4⟩
set_option maxRecDepth 100000 in
theorem oX4_leastCost : xMOk xTs xnl xMs mX4_leastCost := ⟨by decide +kernel, xT_in 537 (by rfl) rfl, by decide, by decide +kernel, rfl, xT_in 54 (by rfl) rfl, fun h => absurd h (by decide), fun _ => ⟨xT_in 535 (by rfl) rfl, xT_in 536 (by rfl) rfl⟩, ⟨by decide +kernel, by decide +kernel⟩, okX4⟩
set_option maxRecDepth 100000 in
theorem oX5_wrongNumber : xMOk xTs xnl xMs mX5_wrongNumber := ⟨by decide +kernel, xT_in 221 (by rfl) rfl, by decide, by decide +kernel, rfl, xT_in 50 (by rfl) rfl, fun _ => xT_in 220 (by rfl) rfl, fun h => absurd h (by decide), ⟨by decide +kernel, by decide +kernel⟩, okX5⟩
set_option maxRecDepth 100000 in
theorem oX5_refused : xMOk xTs xnl xMs mX5_refused := ⟨by decide +kernel, xT_in 229 (by rfl) rfl, by decide, by decide +kernel, rfl, xT_in 50 (by rfl) rfl, fun h => absurd h (by decide), fun _ => ⟨xT_in 228 (by rfl) rfl, xT_in 0 (by rfl) rfl⟩, ⟨by decide +kernel, by decide +kernel⟩, okX5⟩
set_option maxRecDepth 100000 in
theorem oX5_feed : xMOk xTs xnl xMs mX5_feed := ⟨by decide +kernel, xT_in 218 (by rfl) rfl, by decide, by decide +kernel, rfl, xT_in 50 (by rfl) rfl, fun h => absurd h (by decide), fun _ => ⟨xT_in 216 (by rfl) rfl, xT_in 217 (by rfl) rfl⟩, ⟨by decide +kernel, by decide +kernel⟩, okX5⟩
set_option maxRecDepth 100000 in
theorem oX5_lantern : xMOk xTs xnl xMs mX5_lantern := ⟨by decide +kernel, xT_in 238 (by rfl) rfl, by decide, by decide +kernel, rfl, xT_in 50 (by rfl) rfl, fun h => absurd h (by decide), fun _ => ⟨xT_in 236 (by rfl) rfl, xT_in 237 (by rfl) rfl⟩, ⟨by decide +kernel, by decide +kernel⟩, okX5⟩
set_option maxRecDepth 100000 in
theorem oX5_wrongSlide : xMOk xTs xnl xMs mX5_wrongSlide := ⟨by decide +kernel, xT_in 303 (by rfl) rfl, by decide, by decide +kernel, rfl, xT_in 50 (by rfl) rfl, fun h => absurd h (by decide), fun _ => ⟨xT_in 302 (by rfl) rfl, xT_in 6 (by rfl) rfl⟩, ⟨by decide +kernel, by decide +kernel⟩, okX5⟩
set_option maxRecDepth 100000 in
theorem oX5_wrongWhat : xMOk xTs xnl xMs mX5_wrongWhat := ⟨by decide +kernel, xT_in 310 (by rfl) rfl, by decide, by decide +kernel, rfl, xT_in 50 (by rfl) rfl, fun _ => xT_in 309 (by rfl) rfl, fun h => absurd h (by decide), ⟨by decide +kernel, by decide +kernel⟩, okX5⟩
set_option maxRecDepth 100000 in
theorem oX5_first : xMOk xTs xnl xMs mX5_first := ⟨by decide +kernel, xT_in 313 (by rfl) rfl, by decide, by decide +kernel, rfl, xT_in 50 (by rfl) rfl, fun _ => xT_in 312 (by rfl) rfl, fun h => absurd h (by decide), ⟨by decide +kernel, by decide +kernel⟩, okX5⟩
set_option maxRecDepth 100000 in
theorem oX5_slide : xMOk xTs xnl xMs mX5_slide := ⟨by decide +kernel, xT_in 299 (by rfl) rfl, by decide, by decide +kernel, rfl, xT_in 50 (by rfl) rfl, fun h => absurd h (by decide), fun _ => ⟨xT_in 297 (by rfl) rfl, xT_in 298 (by rfl) rfl⟩, ⟨by decide +kernel, by decide +kernel⟩, okX5⟩
set_option maxRecDepth 100000 in
theorem oX5_wanted : xMOk xTs xnl xMs mX5_wanted := ⟨by decide +kernel, xT_in 346 (by rfl) rfl, by decide, by decide +kernel, rfl, xT_in 50 (by rfl) rfl, fun h => absurd h (by decide), fun _ => ⟨xT_in 344 (by rfl) rfl, xT_in 345 (by rfl) rfl⟩, ⟨by decide +kernel, by decide +kernel⟩, okX5⟩
set_option maxRecDepth 100000 in
theorem oX5_heat : xMOk xTs xnl xMs mX5_heat := ⟨by decide +kernel, xT_in 359 (by rfl) rfl, by decide, by decide +kernel, rfl, xT_in 50 (by rfl) rfl, fun h => absurd h (by decide), fun _ => ⟨xT_in 357 (by rfl) rfl, xT_in 358 (by rfl) rfl⟩, ⟨by decide +kernel, by decide +kernel⟩, okX5⟩
set_option maxRecDepth 100000 in
theorem oX5_price : xMOk xTs xnl xMs mX5_price := ⟨by decide +kernel, xT_in 363 (by rfl) rfl, by decide, by decide +kernel, rfl, xT_in 50 (by rfl) rfl, fun h => absurd h (by decide), fun _ => ⟨xT_in 361 (by rfl) rfl, xT_in 362 (by rfl) rfl⟩, ⟨by decide +kernel, by decide +kernel⟩, okX5⟩
set_option maxRecDepth 100000 in
theorem oX5_wrongSet : xMOk xTs xnl xMs mX5_wrongSet := ⟨by decide +kernel, xT_in 375 (by rfl) rfl, by decide, by decide +kernel, rfl, xT_in 50 (by rfl) rfl, fun h => absurd h (by decide), fun _ => ⟨xT_in 374 (by rfl) rfl, xT_in 8 (by rfl) rfl⟩, ⟨by decide +kernel, by decide +kernel⟩, okX5⟩
set_option maxRecDepth 100000 in
theorem oX5_lay : xMOk xTs xnl xMs mX5_lay := ⟨by decide +kernel, xT_in 371 (by rfl) rfl, by decide, by decide +kernel, rfl, xT_in 50 (by rfl) rfl, fun h => absurd h (by decide), fun _ => ⟨xT_in 369 (by rfl) rfl, xT_in 370 (by rfl) rfl⟩, ⟨by decide +kernel, by decide +kernel⟩, okX5⟩
set_option maxRecDepth 100000 in
theorem oX5_project : xMOk xTs xnl xMs mX5_project := ⟨by decide +kernel, xT_in 387 (by rfl) rfl, by decide, by decide +kernel, rfl, xT_in 50 (by rfl) rfl, fun h => absurd h (by decide), fun _ => ⟨xT_in 385 (by rfl) rfl, xT_in 386 (by rfl) rfl⟩, ⟨by decide +kernel, by decide +kernel⟩, okX5⟩
set_option maxRecDepth 100000 in
theorem oX5_wrongAsked : xMOk xTs xnl xMs mX5_wrongAsked := ⟨by decide +kernel, xT_in 417 (by rfl) rfl, by decide, by decide +kernel, rfl, xT_in 50 (by rfl) rfl, fun _ => xT_in 416 (by rfl) rfl, fun h => absurd h (by decide), ⟨by decide +kernel, by decide +kernel⟩, okX5⟩
set_option maxRecDepth 100000 in
theorem oX5_gaps : xMOk xTs xnl xMs mX5_gaps := ⟨by decide +kernel, xT_in 414 (by rfl) rfl, by decide, by decide +kernel, rfl, xT_in 50 (by rfl) rfl, fun h => absurd h (by decide), fun _ => ⟨xT_in 412 (by rfl) rfl, xT_in 413 (by rfl) rfl⟩, ⟨by decide +kernel, by decide +kernel⟩, okX5⟩
set_option maxRecDepth 100000 in
theorem oX5_nearest : xMOk xTs xnl xMs mX5_nearest := ⟨by decide +kernel, xT_in 429 (by rfl) rfl, by decide, by decide +kernel, rfl, xT_in 50 (by rfl) rfl, fun h => absurd h (by decide), fun _ => ⟨xT_in 427 (by rfl) rfl, xT_in 428 (by rfl) rfl⟩, ⟨by decide +kernel, by decide +kernel⟩, okX5⟩
set_option maxRecDepth 100000 in
theorem oX5_fewest : xMOk xTs xnl xMs mX5_fewest := ⟨by decide +kernel, xT_in 437 (by rfl) rfl, by decide, by decide +kernel, rfl, xT_in 50 (by rfl) rfl, fun h => absurd h (by decide), fun _ => ⟨xT_in 435 (by rfl) rfl, xT_in 436 (by rfl) rfl⟩, ⟨by decide +kernel, by decide +kernel⟩, okX5⟩
set_option maxRecDepth 100000 in
theorem oX5_cheapest : xMOk xTs xnl xMs mX5_cheapest := ⟨by decide +kernel, xT_in 471 (by rfl) rfl, by decide, by decide +kernel, rfl, xT_in 50 (by rfl) rfl, fun h => absurd h (by decide), fun _ => ⟨xT_in 469 (by rfl) rfl, xT_in 470 (by rfl) rfl⟩, ⟨by decide +kernel, by decide +kernel⟩, okX5⟩
set_option maxRecDepth 100000 in
theorem oX5_near : xMOk xTs xnl xMs mX5_near := ⟨by decide +kernel, xT_in 483 (by rfl) rfl, by decide, by decide +kernel, rfl, xT_in 50 (by rfl) rfl, fun h => absurd h (by decide), fun _ => ⟨xT_in 481 (by rfl) rfl, xT_in 482 (by rfl) rfl⟩, ⟨by decide +kernel, by decide +kernel⟩, okX5⟩
set_option maxRecDepth 100000 in
theorem oX5_can : xMOk xTs xnl xMs mX5_can := ⟨by decide +kernel, xT_in 496 (by rfl) rfl, by decide, by decide +kernel, rfl, xT_in 50 (by rfl) rfl, fun h => absurd h (by decide), fun _ => ⟨xT_in 494 (by rfl) rfl, xT_in 495 (by rfl) rfl⟩, ⟨by decide +kernel, by decide +kernel⟩, okX5⟩
set_option maxRecDepth 100000 in
theorem oX5_worth : xMOk xTs xnl xMs mX5_worth := ⟨by decide +kernel, xT_in 509 (by rfl) rfl, by decide, by decide +kernel, rfl, xT_in 50 (by rfl) rfl, fun h => absurd h (by decide), fun _ => ⟨xT_in 507 (by rfl) rfl, xT_in 508 (by rfl) rfl⟩, ⟨by decide +kernel, by decide +kernel⟩, okX5⟩
set_option maxRecDepth 100000 in
theorem oX5_sure : xMOk xTs xnl xMs mX5_sure := ⟨by decide +kernel, xT_in 513 (by rfl) rfl, by decide, by decide +kernel, rfl, xT_in 50 (by rfl) rfl, fun h => absurd h (by decide), fun _ => ⟨xT_in 511 (by rfl) rfl, xT_in 512 (by rfl) rfl⟩, ⟨by decide +kernel, by decide +kernel⟩, okX5⟩
set_option maxRecDepth 100000 in
theorem oX5_who : xMOk xTs xnl xMs mX5_who := ⟨by decide +kernel, xT_in 517 (by rfl) rfl, by decide, by decide +kernel, rfl, xT_in 50 (by rfl) rfl, fun h => absurd h (by decide), fun _ => ⟨xT_in 515 (by rfl) rfl, xT_in 516 (by rfl) rfl⟩, ⟨by decide +kernel, by decide +kernel⟩, okX5⟩
set_option maxRecDepth 100000 in
theorem oX5_power : xMOk xTs xnl xMs mX5_power := ⟨by decide +kernel, xT_in 529 (by rfl) rfl, by decide, by decide +kernel, rfl, xT_in 50 (by rfl) rfl, fun _ => xT_in 528 (by rfl) rfl, fun h => absurd h (by decide), ⟨by decide +kernel, by decide +kernel⟩, okX5⟩
set_option maxRecDepth 100000 in
theorem oX5_dust : xMOk xTs xnl xMs mX5_dust := ⟨by decide +kernel, xT_in 525 (by rfl) rfl, by decide, by decide +kernel, rfl, xT_in 50 (by rfl) rfl, fun h => absurd h (by decide), fun _ => ⟨xT_in 523 (by rfl) rfl, xT_in 524 (by rfl) rfl⟩, ⟨by decide +kernel, by decide +kernel⟩, okX5⟩
set_option maxRecDepth 100000 in
theorem oX5_round : xMOk xTs xnl xMs mX5_round := ⟨by decide +kernel, xT_in 533 (by rfl) rfl, by decide, by decide +kernel, rfl, xT_in 50 (by rfl) rfl, fun h => absurd h (by decide), fun _ => ⟨xT_in 531 (by rfl) rfl, xT_in 532 (by rfl) rfl⟩, ⟨by decide +kernel, by decide +kernel⟩, okX5⟩
set_option maxRecDepth 100000 in
theorem oX5_row : xMOk xTs xnl xMs mX5_row := ⟨by decide +kernel, xT_in 569 (by rfl) rfl, by decide, by decide +kernel, rfl, xT_in 50 (by rfl) rfl, fun h => absurd h (by decide), fun _ => ⟨xT_in 567 (by rfl) rfl, xT_in 568 (by rfl) rfl⟩, ⟨by decide +kernel, by decide +kernel⟩, okX5⟩
set_option maxRecDepth 100000 in
theorem oX5_judge : xMOk xTs xnl xMs mX5_judge := ⟨by decide +kernel, xT_in 573 (by rfl) rfl, by decide, by decide +kernel, rfl, xT_in 50 (by rfl) rfl, fun h => absurd h (by decide), fun _ => ⟨xT_in 571 (by rfl) rfl, xT_in 572 (by rfl) rfl⟩, ⟨by decide +kernel, by decide +kernel⟩, okX5⟩
set_option maxRecDepth 100000 in
theorem oX5_nextSeed : xMOk xTs xnl xMs mX5_nextSeed := ⟨by decide +kernel, xT_in 584 (by rfl) rfl, by decide, by decide +kernel, rfl, xT_in 50 (by rfl) rfl, fun _ => xT_in 583 (by rfl) rfl, fun h => absurd h (by decide), ⟨by decide +kernel, by decide +kernel⟩, okX5⟩
set_option maxRecDepth 100000 in
theorem oX5_drawBelow : xMOk xTs xnl xMs mX5_drawBelow := ⟨by decide +kernel, xT_in 588 (by rfl) rfl, by decide, by decide +kernel, rfl, xT_in 50 (by rfl) rfl, fun _ => xT_in 587 (by rfl) rfl, fun h => absurd h (by decide), ⟨by decide +kernel, by decide +kernel⟩, okX5⟩
set_option maxRecDepth 100000 in
theorem oX5_seeds : xMOk xTs xnl xMs mX5_seeds := ⟨by decide +kernel, xT_in 581 (by rfl) rfl, by decide, by decide +kernel, rfl, xT_in 50 (by rfl) rfl, fun h => absurd h (by decide), fun _ => ⟨xT_in 579 (by rfl) rfl, xT_in 580 (by rfl) rfl⟩, ⟨by decide +kernel, by decide +kernel⟩, okX5⟩
set_option maxRecDepth 100000 in
theorem oX5_image : xMOk xTs xnl xMs mX5_image := ⟨by decide +kernel, xT_in 594 (by rfl) rfl, by decide, by decide +kernel, rfl, xT_in 50 (by rfl) rfl, fun h => absurd h (by decide), fun _ => ⟨xT_in 592 (by rfl) rfl, xT_in 593 (by rfl) rfl⟩, ⟨by decide +kernel, by decide +kernel⟩, okX5⟩
set_option maxRecDepth 100000 in
theorem oX5_restore : xMOk xTs xnl xMs mX5_restore := ⟨by decide +kernel, xT_in 598 (by rfl) rfl, by decide, by decide +kernel, rfl, xT_in 50 (by rfl) rfl, fun h => absurd h (by decide), fun _ => ⟨xT_in 596 (by rfl) rfl, xT_in 597 (by rfl) rfl⟩, ⟨by decide +kernel, by decide +kernel⟩, okX5⟩
set_option maxRecDepth 100000 in
theorem oX5_count : xMOk xTs xnl xMs mX5_count := ⟨by decide +kernel, xT_in 602 (by rfl) rfl, by decide, by decide +kernel, rfl, xT_in 50 (by rfl) rfl, fun h => absurd h (by decide), fun _ => ⟨xT_in 600 (by rfl) rfl, xT_in 601 (by rfl) rfl⟩, ⟨by decide +kernel, by decide +kernel⟩, okX5⟩
set_option maxRecDepth 100000 in
theorem oX6_no : xMOk xTs xnl xMs mX6_no := ⟨by decide +kernel, xT_in 724 (by rfl) rfl, by decide, by decide +kernel, rfl, xT_in 55 (by rfl) rfl, fun h => absurd h (by decide), fun _ => ⟨xT_in 723 (by rfl) rfl, xT_in 23 (by rfl) rfl⟩, ⟨by decide +kernel, by decide +kernel⟩, okX6⟩
set_option maxRecDepth 100000 in
theorem oX6_lowest : xMOk xTs xnl xMs mX6_lowest := ⟨by decide +kernel, xT_in 904 (by rfl) rfl, by decide, by decide +kernel, rfl, xT_in 55 (by rfl) rfl, fun h => absurd h (by decide), fun _ => ⟨xT_in 903 (by rfl) rfl, xT_in 44 (by rfl) rfl⟩, ⟨by decide +kernel, by decide +kernel⟩, okX6⟩
set_option maxRecDepth 100000 in
theorem oX6_isIn : xMOk xTs xnl xMs mX6_isIn := ⟨by decide +kernel, xT_in 747 (by rfl) rfl, by decide, by decide +kernel, rfl, xT_in 55 (by rfl) rfl, fun _ => xT_in 746 (by rfl) rfl, fun h => absurd h (by decide), ⟨by decide +kernel, by decide +kernel⟩, okX6⟩
set_option maxRecDepth 100000 in
theorem oX6_bound : xMOk xTs xnl xMs mX6_bound := ⟨by decide +kernel, xT_in 720 (by rfl) rfl, by decide, by decide +kernel, rfl, xT_in 55 (by rfl) rfl, fun _ => xT_in 719 (by rfl) rfl, fun h => absurd h (by decide), ⟨by decide +kernel, by decide +kernel⟩, okX6⟩
set_option maxRecDepth 100000 in
theorem oX6_isSlide : xMOk xTs xnl xMs mX6_isSlide := ⟨by decide +kernel, xT_in 783 (by rfl) rfl, by decide, by decide +kernel, rfl, xT_in 55 (by rfl) rfl, fun h => absurd h (by decide), fun _ => ⟨xT_in 782 (by rfl) rfl, xT_in 33 (by rfl) rfl⟩, ⟨by decide +kernel, by decide +kernel⟩, okX6⟩
set_option maxRecDepth 100000 in
theorem oX6_areSlides : xMOk xTs xnl xMs mX6_areSlides := ⟨by decide +kernel, xT_in 817 (by rfl) rfl, by decide, by decide +kernel, rfl, xT_in 55 (by rfl) rfl, fun h => absurd h (by decide), fun _ => ⟨xT_in 816 (by rfl) rfl, xT_in 35 (by rfl) rfl⟩, ⟨by decide +kernel, by decide +kernel⟩, okX6⟩
set_option maxRecDepth 100000 in
theorem oX6_feed : xMOk xTs xnl xMs mX6_feed := ⟨by decide +kernel, xT_in 717 (by rfl) rfl, by decide, by decide +kernel, rfl, xT_in 55 (by rfl) rfl, fun h => absurd h (by decide), fun _ => ⟨xT_in 715 (by rfl) rfl, xT_in 716 (by rfl) rfl⟩, ⟨by decide +kernel, by decide +kernel⟩, okX6⟩
set_option maxRecDepth 100000 in
theorem oX6_next : xMOk xTs xnl xMs mX6_next := ⟨by decide +kernel, xT_in 736 (by rfl) rfl, by decide, by decide +kernel, rfl, xT_in 55 (by rfl) rfl, fun h => absurd h (by decide), fun _ => ⟨xT_in 735 (by rfl) rfl, xT_in 25 (by rfl) rfl⟩, ⟨by decide +kernel, by decide +kernel⟩, okX6⟩
set_option maxRecDepth 100000 in
theorem oX6_readsNumber : xMOk xTs xnl xMs mX6_readsNumber := ⟨by decide +kernel, xT_in 744 (by rfl) rfl, by decide, by decide +kernel, rfl, xT_in 55 (by rfl) rfl, fun h => absurd h (by decide), fun _ => ⟨xT_in 743 (by rfl) rfl, xT_in 27 (by rfl) rfl⟩, ⟨by decide +kernel, by decide +kernel⟩, okX6⟩
set_option maxRecDepth 100000 in
theorem oX6_readsPicture : xMOk xTs xnl xMs mX6_readsPicture := ⟨by decide +kernel, xT_in 751 (by rfl) rfl, by decide, by decide +kernel, rfl, xT_in 55 (by rfl) rfl, fun h => absurd h (by decide), fun _ => ⟨xT_in 750 (by rfl) rfl, xT_in 28 (by rfl) rfl⟩, ⟨by decide +kernel, by decide +kernel⟩, okX6⟩
set_option maxRecDepth 100000 in
theorem oX6_readsSlide : xMOk xTs xnl xMs mX6_readsSlide := ⟨by decide +kernel, xT_in 740 (by rfl) rfl, by decide, by decide +kernel, rfl, xT_in 55 (by rfl) rfl, fun h => absurd h (by decide), fun _ => ⟨xT_in 739 (by rfl) rfl, xT_in 26 (by rfl) rfl⟩, ⟨by decide +kernel, by decide +kernel⟩, okX6⟩
set_option maxRecDepth 100000 in
theorem oX6_statement : xMOk xTs xnl xMs mX6_statement := ⟨by decide +kernel, xT_in 732 (by rfl) rfl, by decide, by decide +kernel, rfl, xT_in 55 (by rfl) rfl, fun h => absurd h (by decide), fun _ => ⟨xT_in 731 (by rfl) rfl, xT_in 24 (by rfl) rfl⟩, ⟨by decide +kernel, by decide +kernel⟩, okX6⟩
set_option maxRecDepth 100000 in
theorem oX6_comes : xMOk xTs xnl xMs mX6_comes := ⟨by decide +kernel, xT_in 767 (by rfl) rfl, by decide, by decide +kernel, rfl, xT_in 55 (by rfl) rfl, fun h => absurd h (by decide), fun _ => ⟨xT_in 766 (by rfl) rfl, xT_in 32 (by rfl) rfl⟩, ⟨by decide +kernel, by decide +kernel⟩, okX6⟩
set_option maxRecDepth 100000 in
theorem oX6_passes : xMOk xTs xnl xMs mX6_passes := ⟨by decide +kernel, xT_in 759 (by rfl) rfl, by decide, by decide +kernel, rfl, xT_in 55 (by rfl) rfl, fun h => absurd h (by decide), fun _ => ⟨xT_in 758 (by rfl) rfl, xT_in 30 (by rfl) rfl⟩, ⟨by decide +kernel, by decide +kernel⟩, okX6⟩
set_option maxRecDepth 100000 in
theorem oX6_passOne : xMOk xTs xnl xMs mX6_passOne := ⟨by decide +kernel, xT_in 763 (by rfl) rfl, by decide, by decide +kernel, rfl, xT_in 55 (by rfl) rfl, fun h => absurd h (by decide), fun _ => ⟨xT_in 762 (by rfl) rfl, xT_in 31 (by rfl) rfl⟩, ⟨by decide +kernel, by decide +kernel⟩, okX6⟩
set_option maxRecDepth 100000 in
theorem oX6_passesAll : xMOk xTs xnl xMs mX6_passesAll := ⟨by decide +kernel, xT_in 755 (by rfl) rfl, by decide, by decide +kernel, rfl, xT_in 55 (by rfl) rfl, fun h => absurd h (by decide), fun _ => ⟨xT_in 754 (by rfl) rfl, xT_in 29 (by rfl) rfl⟩, ⟨by decide +kernel, by decide +kernel⟩, okX6⟩
set_option maxRecDepth 100000 in
theorem oX6_lantern : xMOk xTs xnl xMs mX6_lantern := ⟨by decide +kernel, xT_in 728 (by rfl) rfl, by decide, by decide +kernel, rfl, xT_in 55 (by rfl) rfl, fun h => absurd h (by decide), fun _ => ⟨xT_in 726 (by rfl) rfl, xT_in 727 (by rfl) rfl⟩, ⟨by decide +kernel, by decide +kernel⟩, okX6⟩
set_option maxRecDepth 100000 in
theorem oX6_image : xMOk xTs xnl xMs mX6_image := ⟨by decide +kernel, xT_in 771 (by rfl) rfl, by decide, by decide +kernel, rfl, xT_in 55 (by rfl) rfl, fun h => absurd h (by decide), fun _ => ⟨xT_in 769 (by rfl) rfl, xT_in 770 (by rfl) rfl⟩, ⟨by decide +kernel, by decide +kernel⟩, okX6⟩
set_option maxRecDepth 100000 in
theorem oX6_restore : xMOk xTs xnl xMs mX6_restore := ⟨by decide +kernel, xT_in 775 (by rfl) rfl, by decide, by decide +kernel, rfl, xT_in 55 (by rfl) rfl, fun h => absurd h (by decide), fun _ => ⟨xT_in 773 (by rfl) rfl, xT_in 774 (by rfl) rfl⟩, ⟨by decide +kernel, by decide +kernel⟩, okX6⟩
set_option maxRecDepth 100000 in
theorem oX6_bits : xMOk xTs xnl xMs mX6_bits := ⟨by decide +kernel, xT_in 832 (by rfl) rfl, by decide, by decide +kernel, rfl, xT_in 55 (by rfl) rfl, fun _ => xT_in 831 (by rfl) rfl, fun h => absurd h (by decide), ⟨by decide +kernel, by decide +kernel⟩, okX6⟩
set_option maxRecDepth 100000 in
theorem oX6_mirrored : xMOk xTs xnl xMs mX6_mirrored := ⟨by decide +kernel, xT_in 790 (by rfl) rfl, by decide, by decide +kernel, rfl, xT_in 55 (by rfl) rfl, fun _ => xT_in 789 (by rfl) rfl, fun h => absurd h (by decide), ⟨by decide +kernel, by decide +kernel⟩, okX6⟩
set_option maxRecDepth 100000 in
theorem oX6_upsideDown : xMOk xTs xnl xMs mX6_upsideDown := ⟨by decide +kernel, xT_in 793 (by rfl) rfl, by decide, by decide +kernel, rfl, xT_in 55 (by rfl) rfl, fun _ => xT_in 792 (by rfl) rfl, fun h => absurd h (by decide), ⟨by decide +kernel, by decide +kernel⟩, okX6⟩
set_option maxRecDepth 100000 in
theorem oX6_shifted : xMOk xTs xnl xMs mX6_shifted := ⟨by decide +kernel, xT_in 797 (by rfl) rfl, by decide, by decide +kernel, rfl, xT_in 55 (by rfl) rfl, fun _ => xT_in 796 (by rfl) rfl, fun h => absurd h (by decide), ⟨by decide +kernel, by decide +kernel⟩, okX6⟩
set_option maxRecDepth 100000 in
theorem oX6_onSlide : xMOk xTs xnl xMs mX6_onSlide := ⟨by decide +kernel, xT_in 787 (by rfl) rfl, by decide, by decide +kernel, rfl, xT_in 55 (by rfl) rfl, fun h => absurd h (by decide), fun _ => ⟨xT_in 786 (by rfl) rfl, xT_in 34 (by rfl) rfl⟩, ⟨by decide +kernel, by decide +kernel⟩, okX6⟩
set_option maxRecDepth 100000 in
theorem oX6_laid : xMOk xTs xnl xMs mX6_laid := ⟨by decide +kernel, xT_in 821 (by rfl) rfl, by decide, by decide +kernel, rfl, xT_in 55 (by rfl) rfl, fun h => absurd h (by decide), fun _ => ⟨xT_in 820 (by rfl) rfl, xT_in 36 (by rfl) rfl⟩, ⟨by decide +kernel, by decide +kernel⟩, okX6⟩
set_option maxRecDepth 100000 in
theorem oX6_slide : xMOk xTs xnl xMs mX6_slide := ⟨by decide +kernel, xT_in 779 (by rfl) rfl, by decide, by decide +kernel, rfl, xT_in 55 (by rfl) rfl, fun h => absurd h (by decide), fun _ => ⟨xT_in 777 (by rfl) rfl, xT_in 778 (by rfl) rfl⟩, ⟨by decide +kernel, by decide +kernel⟩, okX6⟩
set_option maxRecDepth 100000 in
theorem oX6_wanted : xMOk xTs xnl xMs mX6_wanted := ⟨by decide +kernel, xT_in 801 (by rfl) rfl, by decide, by decide +kernel, rfl, xT_in 55 (by rfl) rfl, fun h => absurd h (by decide), fun _ => ⟨xT_in 799 (by rfl) rfl, xT_in 800 (by rfl) rfl⟩, ⟨by decide +kernel, by decide +kernel⟩, okX6⟩
set_option maxRecDepth 100000 in
theorem oX6_heat : xMOk xTs xnl xMs mX6_heat := ⟨by decide +kernel, xT_in 805 (by rfl) rfl, by decide, by decide +kernel, rfl, xT_in 55 (by rfl) rfl, fun h => absurd h (by decide), fun _ => ⟨xT_in 803 (by rfl) rfl, xT_in 804 (by rfl) rfl⟩, ⟨by decide +kernel, by decide +kernel⟩, okX6⟩
set_option maxRecDepth 100000 in
theorem oX6_price : xMOk xTs xnl xMs mX6_price := ⟨by decide +kernel, xT_in 809 (by rfl) rfl, by decide, by decide +kernel, rfl, xT_in 55 (by rfl) rfl, fun h => absurd h (by decide), fun _ => ⟨xT_in 807 (by rfl) rfl, xT_in 808 (by rfl) rfl⟩, ⟨by decide +kernel, by decide +kernel⟩, okX6⟩
set_option maxRecDepth 100000 in
theorem oX6_lay : xMOk xTs xnl xMs mX6_lay := ⟨by decide +kernel, xT_in 813 (by rfl) rfl, by decide, by decide +kernel, rfl, xT_in 55 (by rfl) rfl, fun h => absurd h (by decide), fun _ => ⟨xT_in 811 (by rfl) rfl, xT_in 812 (by rfl) rfl⟩, ⟨by decide +kernel, by decide +kernel⟩, okX6⟩
set_option maxRecDepth 100000 in
theorem oX6_projects : xMOk xTs xnl xMs mX6_projects := ⟨by decide +kernel, xT_in 836 (by rfl) rfl, by decide, by decide +kernel, rfl, xT_in 55 (by rfl) rfl, fun h => absurd h (by decide), fun _ => ⟨xT_in 835 (by rfl) rfl, xT_in 38 (by rfl) rfl⟩, ⟨by decide +kernel, by decide +kernel⟩, okX6⟩
set_option maxRecDepth 100000 in
theorem oX6_isShow : xMOk xTs xnl xMs mX6_isShow := ⟨by decide +kernel, xT_in 829 (by rfl) rfl, by decide, by decide +kernel, rfl, xT_in 55 (by rfl) rfl, fun h => absurd h (by decide), fun _ => ⟨xT_in 828 (by rfl) rfl, xT_in 37 (by rfl) rfl⟩, ⟨by decide +kernel, by decide +kernel⟩, okX6⟩
set_option maxRecDepth 100000 in
theorem oX6_project : xMOk xTs xnl xMs mX6_project := ⟨by decide +kernel, xT_in 825 (by rfl) rfl, by decide, by decide +kernel, rfl, xT_in 55 (by rfl) rfl, fun h => absurd h (by decide), fun _ => ⟨xT_in 823 (by rfl) rfl, xT_in 824 (by rfl) rfl⟩, ⟨by decide +kernel, by decide +kernel⟩, okX6⟩
set_option maxRecDepth 100000 in
theorem oX6_groups : xMOk xTs xnl xMs mX6_groups := ⟨by decide +kernel, xT_in 843 (by rfl) rfl, by decide, by decide +kernel, rfl, xT_in 55 (by rfl) rfl, fun _ => xT_in 842 (by rfl) rfl, fun h => absurd h (by decide), ⟨by decide +kernel, by decide +kernel⟩, okX6⟩
set_option maxRecDepth 100000 in
theorem oX6_gaps : xMOk xTs xnl xMs mX6_gaps := ⟨by decide +kernel, xT_in 840 (by rfl) rfl, by decide, by decide +kernel, rfl, xT_in 55 (by rfl) rfl, fun h => absurd h (by decide), fun _ => ⟨xT_in 838 (by rfl) rfl, xT_in 839 (by rfl) rfl⟩, ⟨by decide +kernel, by decide +kernel⟩, okX6⟩
set_option maxRecDepth 100000 in
theorem oX6_nearest : xMOk xTs xnl xMs mX6_nearest := ⟨by decide +kernel, xT_in 848 (by rfl) rfl, by decide, by decide +kernel, rfl, xT_in 55 (by rfl) rfl, fun h => absurd h (by decide), fun _ => ⟨xT_in 846 (by rfl) rfl, xT_in 847 (by rfl) rfl⟩, ⟨by decide +kernel, by decide +kernel⟩, okX6⟩
set_option maxRecDepth 100000 in
theorem oX6_pricesOf : xMOk xTs xnl xMs mX6_pricesOf := ⟨by decide +kernel, xT_in 864 (by rfl) rfl, by decide, by decide +kernel, rfl, xT_in 55 (by rfl) rfl, fun h => absurd h (by decide), fun _ => ⟨xT_in 863 (by rfl) rfl, xT_in 41 (by rfl) rfl⟩, ⟨by decide +kernel, by decide +kernel⟩, okX6⟩
set_option maxRecDepth 100000 in
theorem oX6_tellsShown : xMOk xTs xnl xMs mX6_tellsShown := ⟨by decide +kernel, xT_in 860 (by rfl) rfl, by decide, by decide +kernel, rfl, xT_in 55 (by rfl) rfl, fun h => absurd h (by decide), fun _ => ⟨xT_in 859 (by rfl) rfl, xT_in 40 (by rfl) rfl⟩, ⟨by decide +kernel, by decide +kernel⟩, okX6⟩
set_option maxRecDepth 100000 in
theorem oX6_findShown : xMOk xTs xnl xMs mX6_findShown := ⟨by decide +kernel, xT_in 856 (by rfl) rfl, by decide, by decide +kernel, rfl, xT_in 55 (by rfl) rfl, fun h => absurd h (by decide), fun _ => ⟨xT_in 855 (by rfl) rfl, xT_in 39 (by rfl) rfl⟩, ⟨by decide +kernel, by decide +kernel⟩, okX6⟩
set_option maxRecDepth 100000 in
theorem oX6_fewest : xMOk xTs xnl xMs mX6_fewest := ⟨by decide +kernel, xT_in 852 (by rfl) rfl, by decide, by decide +kernel, rfl, xT_in 55 (by rfl) rfl, fun h => absurd h (by decide), fun _ => ⟨xT_in 850 (by rfl) rfl, xT_in 851 (by rfl) rfl⟩, ⟨by decide +kernel, by decide +kernel⟩, okX6⟩
set_option maxRecDepth 100000 in
theorem oX6_cheapest : xMOk xTs xnl xMs mX6_cheapest := ⟨by decide +kernel, xT_in 868 (by rfl) rfl, by decide, by decide +kernel, rfl, xT_in 55 (by rfl) rfl, fun h => absurd h (by decide), fun _ => ⟨xT_in 866 (by rfl) rfl, xT_in 867 (by rfl) rfl⟩, ⟨by decide +kernel, by decide +kernel⟩, okX6⟩
set_option maxRecDepth 100000 in
theorem oX6_near : xMOk xTs xnl xMs mX6_near := ⟨by decide +kernel, xT_in 872 (by rfl) rfl, by decide, by decide +kernel, rfl, xT_in 55 (by rfl) rfl, fun h => absurd h (by decide), fun _ => ⟨xT_in 870 (by rfl) rfl, xT_in 871 (by rfl) rfl⟩, ⟨by decide +kernel, by decide +kernel⟩, okX6⟩
set_option maxRecDepth 100000 in
theorem oX6_canWithout : xMOk xTs xnl xMs mX6_canWithout := ⟨by decide +kernel, xT_in 880 (by rfl) rfl, by decide, by decide +kernel, rfl, xT_in 55 (by rfl) rfl, fun h => absurd h (by decide), fun _ => ⟨xT_in 879 (by rfl) rfl, xT_in 42 (by rfl) rfl⟩, ⟨by decide +kernel, by decide +kernel⟩, okX6⟩
set_option maxRecDepth 100000 in
theorem oX6_can : xMOk xTs xnl xMs mX6_can := ⟨by decide +kernel, xT_in 876 (by rfl) rfl, by decide, by decide +kernel, rfl, xT_in 55 (by rfl) rfl, fun h => absurd h (by decide), fun _ => ⟨xT_in 874 (by rfl) rfl, xT_in 875 (by rfl) rfl⟩, ⟨by decide +kernel, by decide +kernel⟩, okX6⟩
set_option maxRecDepth 100000 in
theorem oX6_worth : xMOk xTs xnl xMs mX6_worth := ⟨by decide +kernel, xT_in 884 (by rfl) rfl, by decide, by decide +kernel, rfl, xT_in 55 (by rfl) rfl, fun h => absurd h (by decide), fun _ => ⟨xT_in 882 (by rfl) rfl, xT_in 883 (by rfl) rfl⟩, ⟨by decide +kernel, by decide +kernel⟩, okX6⟩
set_option maxRecDepth 100000 in
theorem oX6_notAsked : xMOk xTs xnl xMs mX6_notAsked := ⟨by decide +kernel, xT_in 892 (by rfl) rfl, by decide, by decide +kernel, rfl, xT_in 55 (by rfl) rfl, fun h => absurd h (by decide), fun _ => ⟨xT_in 891 (by rfl) rfl, xT_in 43 (by rfl) rfl⟩, ⟨by decide +kernel, by decide +kernel⟩, okX6⟩
set_option maxRecDepth 100000 in
theorem oX6_sure : xMOk xTs xnl xMs mX6_sure := ⟨by decide +kernel, xT_in 888 (by rfl) rfl, by decide, by decide +kernel, rfl, xT_in 55 (by rfl) rfl, fun h => absurd h (by decide), fun _ => ⟨xT_in 886 (by rfl) rfl, xT_in 887 (by rfl) rfl⟩, ⟨by decide +kernel, by decide +kernel⟩, okX6⟩
set_option maxRecDepth 100000 in
theorem oX6_who : xMOk xTs xnl xMs mX6_who := ⟨by decide +kernel, xT_in 896 (by rfl) rfl, by decide, by decide +kernel, rfl, xT_in 55 (by rfl) rfl, fun h => absurd h (by decide), fun _ => ⟨xT_in 894 (by rfl) rfl, xT_in 895 (by rfl) rfl⟩, ⟨by decide +kernel, by decide +kernel⟩, okX6⟩
set_option maxRecDepth 100000 in
theorem oX6_divisor : xMOk xTs xnl xMs mX6_divisor := ⟨by decide +kernel, xT_in 909 (by rfl) rfl, by decide, by decide +kernel, rfl, xT_in 55 (by rfl) rfl, fun _ => xT_in 908 (by rfl) rfl, fun h => absurd h (by decide), ⟨by decide +kernel, by decide +kernel⟩, okX6⟩
set_option maxRecDepth 100000 in
theorem oX6_dust : xMOk xTs xnl xMs mX6_dust := ⟨by decide +kernel, xT_in 900 (by rfl) rfl, by decide, by decide +kernel, rfl, xT_in 55 (by rfl) rfl, fun h => absurd h (by decide), fun _ => ⟨xT_in 898 (by rfl) rfl, xT_in 899 (by rfl) rfl⟩, ⟨by decide +kernel, by decide +kernel⟩, okX6⟩
set_option maxRecDepth 100000 in
theorem oX6_findAsked : xMOk xTs xnl xMs mX6_findAsked := ⟨by decide +kernel, xT_in 917 (by rfl) rfl, by decide, by decide +kernel, rfl, xT_in 55 (by rfl) rfl, fun h => absurd h (by decide), fun _ => ⟨xT_in 916 (by rfl) rfl, xT_in 45 (by rfl) rfl⟩, ⟨by decide +kernel, by decide +kernel⟩, okX6⟩
set_option maxRecDepth 100000 in
theorem oX6_placeOf : xMOk xTs xnl xMs mX6_placeOf := ⟨by decide +kernel, xT_in 920 (by rfl) rfl, by decide, by decide +kernel, rfl, xT_in 55 (by rfl) rfl, fun _ => xT_in 919 (by rfl) rfl, fun h => absurd h (by decide), ⟨by decide +kernel, by decide +kernel⟩, okX6⟩
set_option maxRecDepth 100000 in
theorem oX6_lowers : xMOk xTs xnl xMs mX6_lowers := ⟨by decide +kernel, xT_in 924 (by rfl) rfl, by decide, by decide +kernel, rfl, xT_in 55 (by rfl) rfl, fun h => absurd h (by decide), fun _ => ⟨xT_in 923 (by rfl) rfl, xT_in 46 (by rfl) rfl⟩, ⟨by decide +kernel, by decide +kernel⟩, okX6⟩
set_option maxRecDepth 100000 in
theorem oX6_goesFrom : xMOk xTs xnl xMs mX6_goesFrom := ⟨by decide +kernel, xT_in 928 (by rfl) rfl, by decide, by decide +kernel, rfl, xT_in 55 (by rfl) rfl, fun h => absurd h (by decide), fun _ => ⟨xT_in 927 (by rfl) rfl, xT_in 47 (by rfl) rfl⟩, ⟨by decide +kernel, by decide +kernel⟩, okX6⟩
set_option maxRecDepth 100000 in
theorem oX6_round : xMOk xTs xnl xMs mX6_round := ⟨by decide +kernel, xT_in 913 (by rfl) rfl, by decide, by decide +kernel, rfl, xT_in 55 (by rfl) rfl, fun h => absurd h (by decide), fun _ => ⟨xT_in 911 (by rfl) rfl, xT_in 912 (by rfl) rfl⟩, ⟨by decide +kernel, by decide +kernel⟩, okX6⟩
set_option maxRecDepth 100000 in
theorem oX6_row : xMOk xTs xnl xMs mX6_row := ⟨by decide +kernel, xT_in 932 (by rfl) rfl, by decide, by decide +kernel, rfl, xT_in 55 (by rfl) rfl, fun h => absurd h (by decide), fun _ => ⟨xT_in 930 (by rfl) rfl, xT_in 931 (by rfl) rfl⟩, ⟨by decide +kernel, by decide +kernel⟩, okX6⟩
set_option maxRecDepth 100000 in
theorem oX6_isWish : xMOk xTs xnl xMs mX6_isWish := ⟨by decide +kernel, xT_in 940 (by rfl) rfl, by decide, by decide +kernel, rfl, xT_in 55 (by rfl) rfl, fun h => absurd h (by decide), fun _ => ⟨xT_in 939 (by rfl) rfl, xT_in 48 (by rfl) rfl⟩, ⟨by decide +kernel, by decide +kernel⟩, okX6⟩
set_option maxRecDepth 100000 in
theorem oX6_judge : xMOk xTs xnl xMs mX6_judge := ⟨by decide +kernel, xT_in 936 (by rfl) rfl, by decide, by decide +kernel, rfl, xT_in 55 (by rfl) rfl, fun h => absurd h (by decide), fun _ => ⟨xT_in 934 (by rfl) rfl, xT_in 935 (by rfl) rfl⟩, ⟨by decide +kernel, by decide +kernel⟩, okX6⟩
set_option maxRecDepth 100000 in
theorem oX6_seeds : xMOk xTs xnl xMs mX6_seeds := ⟨by decide +kernel, xT_in 944 (by rfl) rfl, by decide, by decide +kernel, rfl, xT_in 55 (by rfl) rfl, fun h => absurd h (by decide), fun _ => ⟨xT_in 942 (by rfl) rfl, xT_in 943 (by rfl) rfl⟩, ⟨by decide +kernel, by decide +kernel⟩, okX6⟩
set_option maxRecDepth 100000 in
theorem oX6_count : xMOk xTs xnl xMs mX6_count := ⟨by decide +kernel, xT_in 951 (by rfl) rfl, by decide, by decide +kernel, rfl, xT_in 55 (by rfl) rfl, fun h => absurd h (by decide), fun _ => ⟨xT_in 949 (by rfl) rfl, xT_in 950 (by rfl) rfl⟩, ⟨by decide +kernel, by decide +kernel⟩, okX6⟩
set_option maxRecDepth 100000 in
theorem xMs_ok : ∀ M ∈ [mX0_mirrored, mX0_flipped, mX0_shifted, mX0_grown, mX0_groups, mX1_becomes, mX1_addsSlide, mX1_addsWanted, mX1_heats, mX1_has, mX1_hasAll, mX1_hasWanted, mJ6_bitCount_0f7a4, mX1_isProjectable, mX1_isWanted, mX1_wantedPicture, mX1_cracked, mX1_onSlide, mX1_told, mX1_repriced, mX1_laid, mX1_wear, mX1_projected, mX1_nearestWanted, mX1_cracksToShow, mX1_allUses, mX1_allPrices, mX2_isFull, mX2_taken, mX2_forget, mX2_stateOpened, mX2_isDigit, mX2_stateBehind, mX2_fault, mX2_signAt, mX2_digit, mX2_number, mX2_pictureBefore, mX2_statementComes, mX2_toldTo, mX3_usable, mX3_dark, mX3_load, mX3_isOutOfReach, mX3_noteFewest, mX3_seekFewest, mX3_findsFewest, mX3_seekCheapest, mX3_leastPrice, mX3_seekNear, mX3_leastUnlike, mX3_isShown, mX3_showable, mX4_layAll, mX4_isShownByOne, mX4_findStops, mX4_arrive, mX4_walk, mX4_leastSteps, mX4_leastCost, mX5_wrongNumber, mX5_refused, mX5_feed, mX5_lantern, mX5_wrongSlide, mX5_wrongWhat, mX5_first, mX5_slide, mX5_wanted, mX5_heat, mX5_price, mX5_wrongSet, mX5_lay, mX5_project, mX5_wrongAsked, mX5_gaps, mX5_nearest, mX5_fewest, mX5_cheapest, mX5_near, mX5_can, mX5_worth, mX5_sure, mX5_who, mX5_power, mX5_dust, mX5_round, mX5_row, mX5_judge, mX5_nextSeed, mX5_drawBelow, mX5_seeds, mX5_image, mX5_restore, mX5_count, mX6_no, mX6_lowest, mX6_isIn, mX6_bound, mX6_isSlide, mX6_areSlides, mX6_feed, mX6_next, mX6_readsNumber, mX6_readsPicture, mX6_readsSlide, mX6_statement, mX6_comes, mX6_passes, mX6_passOne, mX6_passesAll, mX6_lantern, mX6_image, mX6_restore, mX6_bits, mX6_mirrored, mX6_upsideDown, mX6_shifted, mX6_onSlide, mX6_laid, mX6_slide, mX6_wanted, mX6_heat, mX6_price, mX6_lay, mX6_projects, mX6_isShow, mX6_project, mX6_groups, mX6_gaps, mX6_nearest, mX6_pricesOf, mX6_tellsShown, mX6_findShown, mX6_fewest, mX6_cheapest, mX6_near, mX6_canWithout, mX6_can, mX6_worth, mX6_notAsked, mX6_sure, mX6_who, mX6_divisor, mX6_dust, mX6_findAsked, mX6_placeOf, mX6_lowers, mX6_goesFrom, mX6_round, mX6_row, mX6_isWish, mX6_judge, mX6_seeds, mX6_count], xMOk xTs xnl xMs M := List.forall_mem_cons.mpr ⟨oX0_mirrored, List.forall_mem_cons.mpr ⟨oX0_flipped, List.forall_mem_cons.mpr ⟨oX0_shifted, List.forall_mem_cons.mpr ⟨oX0_grown, List.forall_mem_cons.mpr ⟨oX0_groups, List.forall_mem_cons.mpr ⟨oX1_becomes, List.forall_mem_cons.mpr ⟨oX1_addsSlide, List.forall_mem_cons.mpr ⟨oX1_addsWanted, List.forall_mem_cons.mpr ⟨oX1_heats, List.forall_mem_cons.mpr ⟨oX1_has, List.forall_mem_cons.mpr ⟨oX1_hasAll, List.forall_mem_cons.mpr ⟨oX1_hasWanted, List.forall_mem_cons.mpr ⟨oJ6_bitCount_0f7a4, List.forall_mem_cons.mpr ⟨oX1_isProjectable, List.forall_mem_cons.mpr ⟨oX1_isWanted, List.forall_mem_cons.mpr ⟨oX1_wantedPicture, List.forall_mem_cons.mpr ⟨oX1_cracked, List.forall_mem_cons.mpr ⟨oX1_onSlide, List.forall_mem_cons.mpr ⟨oX1_told, List.forall_mem_cons.mpr ⟨oX1_repriced, List.forall_mem_cons.mpr ⟨oX1_laid, List.forall_mem_cons.mpr ⟨oX1_wear, List.forall_mem_cons.mpr ⟨oX1_projected, List.forall_mem_cons.mpr ⟨oX1_nearestWanted, List.forall_mem_cons.mpr ⟨oX1_cracksToShow, List.forall_mem_cons.mpr ⟨oX1_allUses, List.forall_mem_cons.mpr ⟨oX1_allPrices, List.forall_mem_cons.mpr ⟨oX2_isFull, List.forall_mem_cons.mpr ⟨oX2_taken, List.forall_mem_cons.mpr ⟨oX2_forget, List.forall_mem_cons.mpr ⟨oX2_stateOpened, List.forall_mem_cons.mpr ⟨oX2_isDigit, List.forall_mem_cons.mpr ⟨oX2_stateBehind, List.forall_mem_cons.mpr ⟨oX2_fault, List.forall_mem_cons.mpr ⟨oX2_signAt, List.forall_mem_cons.mpr ⟨oX2_digit, List.forall_mem_cons.mpr ⟨oX2_number, List.forall_mem_cons.mpr ⟨oX2_pictureBefore, List.forall_mem_cons.mpr ⟨oX2_statementComes, List.forall_mem_cons.mpr ⟨oX2_toldTo, List.forall_mem_cons.mpr ⟨oX3_usable, List.forall_mem_cons.mpr ⟨oX3_dark, List.forall_mem_cons.mpr ⟨oX3_load, List.forall_mem_cons.mpr ⟨oX3_isOutOfReach, List.forall_mem_cons.mpr ⟨oX3_noteFewest, List.forall_mem_cons.mpr ⟨oX3_seekFewest, List.forall_mem_cons.mpr ⟨oX3_findsFewest, List.forall_mem_cons.mpr ⟨oX3_seekCheapest, List.forall_mem_cons.mpr ⟨oX3_leastPrice, List.forall_mem_cons.mpr ⟨oX3_seekNear, List.forall_mem_cons.mpr ⟨oX3_leastUnlike, List.forall_mem_cons.mpr ⟨oX3_isShown, List.forall_mem_cons.mpr ⟨oX3_showable, List.forall_mem_cons.mpr ⟨oX4_layAll, List.forall_mem_cons.mpr ⟨oX4_isShownByOne, List.forall_mem_cons.mpr ⟨oX4_findStops, List.forall_mem_cons.mpr ⟨oX4_arrive, List.forall_mem_cons.mpr ⟨oX4_walk, List.forall_mem_cons.mpr ⟨oX4_leastSteps, List.forall_mem_cons.mpr ⟨oX4_leastCost, List.forall_mem_cons.mpr ⟨oX5_wrongNumber, List.forall_mem_cons.mpr ⟨oX5_refused, List.forall_mem_cons.mpr ⟨oX5_feed, List.forall_mem_cons.mpr ⟨oX5_lantern, List.forall_mem_cons.mpr ⟨oX5_wrongSlide, List.forall_mem_cons.mpr ⟨oX5_wrongWhat, List.forall_mem_cons.mpr ⟨oX5_first, List.forall_mem_cons.mpr ⟨oX5_slide, List.forall_mem_cons.mpr ⟨oX5_wanted, List.forall_mem_cons.mpr ⟨oX5_heat, List.forall_mem_cons.mpr ⟨oX5_price, List.forall_mem_cons.mpr ⟨oX5_wrongSet, List.forall_mem_cons.mpr ⟨oX5_lay, List.forall_mem_cons.mpr ⟨oX5_project, List.forall_mem_cons.mpr ⟨oX5_wrongAsked, List.forall_mem_cons.mpr ⟨oX5_gaps, List.forall_mem_cons.mpr ⟨oX5_nearest, List.forall_mem_cons.mpr ⟨oX5_fewest, List.forall_mem_cons.mpr ⟨oX5_cheapest, List.forall_mem_cons.mpr ⟨oX5_near, List.forall_mem_cons.mpr ⟨oX5_can, List.forall_mem_cons.mpr ⟨oX5_worth, List.forall_mem_cons.mpr ⟨oX5_sure, List.forall_mem_cons.mpr ⟨oX5_who, List.forall_mem_cons.mpr ⟨oX5_power, List.forall_mem_cons.mpr ⟨oX5_dust, List.forall_mem_cons.mpr ⟨oX5_round, List.forall_mem_cons.mpr ⟨oX5_row, List.forall_mem_cons.mpr ⟨oX5_judge, List.forall_mem_cons.mpr ⟨oX5_nextSeed, List.forall_mem_cons.mpr ⟨oX5_drawBelow, List.forall_mem_cons.mpr ⟨oX5_seeds, List.forall_mem_cons.mpr ⟨oX5_image, List.forall_mem_cons.mpr ⟨oX5_restore, List.forall_mem_cons.mpr ⟨oX5_count, List.forall_mem_cons.mpr ⟨oX6_no, List.forall_mem_cons.mpr ⟨oX6_lowest, List.forall_mem_cons.mpr ⟨oX6_isIn, List.forall_mem_cons.mpr ⟨oX6_bound, List.forall_mem_cons.mpr ⟨oX6_isSlide, List.forall_mem_cons.mpr ⟨oX6_areSlides, List.forall_mem_cons.mpr ⟨oX6_feed, List.forall_mem_cons.mpr ⟨oX6_next, List.forall_mem_cons.mpr ⟨oX6_readsNumber, List.forall_mem_cons.mpr ⟨oX6_readsPicture, List.forall_mem_cons.mpr ⟨oX6_readsSlide, List.forall_mem_cons.mpr ⟨oX6_statement, List.forall_mem_cons.mpr ⟨oX6_comes, List.forall_mem_cons.mpr ⟨oX6_passes, List.forall_mem_cons.mpr ⟨oX6_passOne, List.forall_mem_cons.mpr ⟨oX6_passesAll, List.forall_mem_cons.mpr ⟨oX6_lantern, List.forall_mem_cons.mpr ⟨oX6_image, List.forall_mem_cons.mpr ⟨oX6_restore, List.forall_mem_cons.mpr ⟨oX6_bits, List.forall_mem_cons.mpr ⟨oX6_mirrored, List.forall_mem_cons.mpr ⟨oX6_upsideDown, List.forall_mem_cons.mpr ⟨oX6_shifted, List.forall_mem_cons.mpr ⟨oX6_onSlide, List.forall_mem_cons.mpr ⟨oX6_laid, List.forall_mem_cons.mpr ⟨oX6_slide, List.forall_mem_cons.mpr ⟨oX6_wanted, List.forall_mem_cons.mpr ⟨oX6_heat, List.forall_mem_cons.mpr ⟨oX6_price, List.forall_mem_cons.mpr ⟨oX6_lay, List.forall_mem_cons.mpr ⟨oX6_projects, List.forall_mem_cons.mpr ⟨oX6_isShow, List.forall_mem_cons.mpr ⟨oX6_project, List.forall_mem_cons.mpr ⟨oX6_groups, List.forall_mem_cons.mpr ⟨oX6_gaps, List.forall_mem_cons.mpr ⟨oX6_nearest, List.forall_mem_cons.mpr ⟨oX6_pricesOf, List.forall_mem_cons.mpr ⟨oX6_tellsShown, List.forall_mem_cons.mpr ⟨oX6_findShown, List.forall_mem_cons.mpr ⟨oX6_fewest, List.forall_mem_cons.mpr ⟨oX6_cheapest, List.forall_mem_cons.mpr ⟨oX6_near, List.forall_mem_cons.mpr ⟨oX6_canWithout, List.forall_mem_cons.mpr ⟨oX6_can, List.forall_mem_cons.mpr ⟨oX6_worth, List.forall_mem_cons.mpr ⟨oX6_notAsked, List.forall_mem_cons.mpr ⟨oX6_sure, List.forall_mem_cons.mpr ⟨oX6_who, List.forall_mem_cons.mpr ⟨oX6_divisor, List.forall_mem_cons.mpr ⟨oX6_dust, List.forall_mem_cons.mpr ⟨oX6_findAsked, List.forall_mem_cons.mpr ⟨oX6_placeOf, List.forall_mem_cons.mpr ⟨oX6_lowers, List.forall_mem_cons.mpr ⟨oX6_goesFrom, List.forall_mem_cons.mpr ⟨oX6_round, List.forall_mem_cons.mpr ⟨oX6_row, List.forall_mem_cons.mpr ⟨oX6_isWish, List.forall_mem_cons.mpr ⟨oX6_judge, List.forall_mem_cons.mpr ⟨oX6_seeds, List.forall_mem_cons.mpr ⟨oX6_count, fun _ h => absurd h List.not_mem_nil⟩⟩⟩⟩⟩⟩⟩⟩⟩⟩⟩⟩⟩⟩⟩⟩⟩⟩⟩⟩⟩⟩⟩⟩⟩⟩⟩⟩⟩⟩⟩⟩⟩⟩⟩⟩⟩⟩⟩⟩⟩⟩⟩⟩⟩⟩⟩⟩⟩⟩⟩⟩⟩⟩⟩⟩⟩⟩⟩⟩⟩⟩⟩⟩⟩⟩⟩⟩⟩⟩⟩⟩⟩⟩⟩⟩⟩⟩⟩⟩⟩⟩⟩⟩⟩⟩⟩⟩⟩⟩⟩⟩⟩⟩⟩⟩⟩⟩⟩⟩⟩⟩⟩⟩⟩⟩⟩⟩⟩⟩⟩⟩⟩⟩⟩⟩⟩⟩⟩⟩⟩⟩⟩⟩⟩⟩⟩⟩⟩⟩⟩⟩⟩⟩⟩⟩⟩⟩⟩⟩⟩⟩⟩⟩⟩⟩⟩⟩⟩⟩⟩⟩⟩⟩⟩
set_option maxRecDepth 100000 in
theorem xOK_all : xOK xTs xnl xMs := by
  refine ⟨fun w h => (List.mem_filter.mp h).2, ?_, fun c M h hc => ?_⟩
  · exact List.forall_mem_cons.mpr ⟨⟨_, _, _, _, _, _, rfl⟩, List.forall_mem_cons.mpr ⟨⟨_, _, _, _, _, _, rfl⟩, List.forall_mem_cons.mpr ⟨⟨_, _, _, _, _, _, rfl⟩, List.forall_mem_cons.mpr ⟨⟨_, _, _, _, _, _, rfl⟩, List.forall_mem_cons.mpr ⟨⟨_, _, _, _, _, _, rfl⟩, List.forall_mem_cons.mpr ⟨⟨_, _, _, _, _, _, rfl⟩, List.forall_mem_cons.mpr ⟨⟨_, _, _, _, _, _, rfl⟩, List.forall_mem_cons.mpr ⟨⟨_, _, _, _, _, _, rfl⟩, List.forall_mem_cons.mpr ⟨⟨_, _, _, _, _, _, rfl⟩, List.forall_mem_cons.mpr ⟨⟨_, _, _, _, _, _, rfl⟩, List.forall_mem_cons.mpr ⟨⟨_, _, _, _, _, _, rfl⟩, List.forall_mem_cons.mpr ⟨⟨_, _, _, _, _, _, rfl⟩, List.forall_mem_cons.mpr ⟨⟨_, _, _, _, _, _, rfl⟩, fun _ h => absurd h List.not_mem_nil⟩⟩⟩⟩⟩⟩⟩⟩⟩⟩⟩⟩⟩
  · cases c with
    | zero => exact absurd rfl hc
    | succ c =>
      refine xMs_ok M ?_
      have h2 : xnth [mX0_mirrored, mX0_flipped, mX0_shifted, mX0_grown, mX0_groups, mX1_becomes, mX1_addsSlide, mX1_addsWanted, mX1_heats, mX1_has, mX1_hasAll, mX1_hasWanted, mJ6_bitCount_0f7a4, mX1_isProjectable, mX1_isWanted, mX1_wantedPicture, mX1_cracked, mX1_onSlide, mX1_told, mX1_repriced, mX1_laid, mX1_wear, mX1_projected, mX1_nearestWanted, mX1_cracksToShow, mX1_allUses, mX1_allPrices, mX2_isFull, mX2_taken, mX2_forget, mX2_stateOpened, mX2_isDigit, mX2_stateBehind, mX2_fault, mX2_signAt, mX2_digit, mX2_number, mX2_pictureBefore, mX2_statementComes, mX2_toldTo, mX3_usable, mX3_dark, mX3_load, mX3_isOutOfReach, mX3_noteFewest, mX3_seekFewest, mX3_findsFewest, mX3_seekCheapest, mX3_leastPrice, mX3_seekNear, mX3_leastUnlike, mX3_isShown, mX3_showable, mX4_layAll, mX4_isShownByOne, mX4_findStops, mX4_arrive, mX4_walk, mX4_leastSteps, mX4_leastCost, mX5_wrongNumber, mX5_refused, mX5_feed, mX5_lantern, mX5_wrongSlide, mX5_wrongWhat, mX5_first, mX5_slide, mX5_wanted, mX5_heat, mX5_price, mX5_wrongSet, mX5_lay, mX5_project, mX5_wrongAsked, mX5_gaps, mX5_nearest, mX5_fewest, mX5_cheapest, mX5_near, mX5_can, mX5_worth, mX5_sure, mX5_who, mX5_power, mX5_dust, mX5_round, mX5_row, mX5_judge, mX5_nextSeed, mX5_drawBelow, mX5_seeds, mX5_image, mX5_restore, mX5_count, mX6_no, mX6_lowest, mX6_isIn, mX6_bound, mX6_isSlide, mX6_areSlides, mX6_feed, mX6_next, mX6_readsNumber, mX6_readsPicture, mX6_readsSlide, mX6_statement, mX6_comes, mX6_passes, mX6_passOne, mX6_passesAll, mX6_lantern, mX6_image, mX6_restore, mX6_bits, mX6_mirrored, mX6_upsideDown, mX6_shifted, mX6_onSlide, mX6_laid, mX6_slide, mX6_wanted, mX6_heat, mX6_price, mX6_lay, mX6_projects, mX6_isShow, mX6_project, mX6_groups, mX6_gaps, mX6_nearest, mX6_pricesOf, mX6_tellsShown, mX6_findShown, mX6_fewest, mX6_cheapest, mX6_near, mX6_canWithout, mX6_can, mX6_worth, mX6_notAsked, mX6_sure, mX6_who, mX6_divisor, mX6_dust, mX6_findAsked, mX6_placeOf, mX6_lowers, mX6_goesFrom, mX6_round, mX6_row, mX6_isWish, mX6_judge, mX6_seeds, mX6_count] c = some M := h
      rw [xnth_eq] at h2
      exact List.mem_of_getElem? h2
end
section
/-! how many parameters: printed by wip/whole/gen_tabs.py -/
theorem pX0_mirrored : (parseMethodDescriptor mX0_mirrored.1.desc).map (fun q => q.parameters.length) = some 1 := by decide +kernel
theorem pX0_flipped : (parseMethodDescriptor mX0_flipped.1.desc).map (fun q => q.parameters.length) = some 1 := by decide +kernel
theorem pX0_shifted : (parseMethodDescriptor mX0_shifted.1.desc).map (fun q => q.parameters.length) = some 2 := by decide +kernel
theorem pX0_grown : (parseMethodDescriptor mX0_grown.1.desc).map (fun q => q.parameters.length) = some 2 := by decide +kernel
theorem pX0_groups : (parseMethodDescriptor mX0_groups.1.desc).map (fun q => q.parameters.length) = some 1 := by decide +kernel
theorem pX1_becomes : (parseMethodDescriptor mX1_becomes.1.desc).map (fun q => q.parameters.length) = some 1 := by decide +kernel
theorem pX1_addsSlide : (parseMethodDescriptor mX1_addsSlide.1.desc).map (fun q => q.parameters.length) = some 4 := by decide +kernel
theorem pX1_addsWanted : (parseMethodDescriptor mX1_addsWanted.1.desc).map (fun q => q.parameters.length) = some 1 := by decide +kernel
theorem pX1_heats : (parseMethodDescriptor mX1_heats.1.desc).map (fun q => q.parameters.length) = some 1 := by decide +kernel
theorem pX1_has : (parseMethodDescriptor mX1_has.1.desc).map (fun q => q.parameters.length) = some 1 := by decide +kernel
theorem pX1_hasAll : (parseMethodDescriptor mX1_hasAll.1.desc).map (fun q => q.parameters.length) = some 1 := by decide +kernel
theorem pX1_hasWanted : (parseMethodDescriptor mX1_hasWanted.1.desc).map (fun q => q.parameters.length) = some 1 := by decide +kernel
theorem pJ6_bitCount_0f7a4 : (parseMethodDescriptor mJ6_bitCount_0f7a4.1.desc).map (fun q => q.parameters.length) = some 1 := by decide +kernel
theorem pX1_isProjectable : (parseMethodDescriptor mX1_isProjectable.1.desc).map (fun q => q.parameters.length) = some 1 := by decide +kernel
theorem pX1_isWanted : (parseMethodDescriptor mX1_isWanted.1.desc).map (fun q => q.parameters.length) = some 1 := by decide +kernel
theorem pX1_wantedPicture : (parseMethodDescriptor mX1_wantedPicture.1.desc).map (fun q => q.parameters.length) = some 1 := by decide +kernel
theorem pX1_cracked : (parseMethodDescriptor mX1_cracked.1.desc).map (fun q => q.parameters.length) = some 1 := by decide +kernel
theorem pX1_onSlide : (parseMethodDescriptor mX1_onSlide.1.desc).map (fun q => q.parameters.length) = some 1 := by decide +kernel
theorem pX1_told : (parseMethodDescriptor mX1_told.1.desc).map (fun q => q.parameters.length) = some 2 := by decide +kernel
theorem pX1_repriced : (parseMethodDescriptor mX1_repriced.1.desc).map (fun q => q.parameters.length) = some 2 := by decide +kernel
theorem pX1_laid : (parseMethodDescriptor mX1_laid.1.desc).map (fun q => q.parameters.length) = some 2 := by decide +kernel
theorem pX1_wear : (parseMethodDescriptor mX1_wear.1.desc).map (fun q => q.parameters.length) = some 1 := by decide +kernel
theorem pX1_projected : (parseMethodDescriptor mX1_projected.1.desc).map (fun q => q.parameters.length) = some 1 := by decide +kernel
theorem pX1_nearestWanted : (parseMethodDescriptor mX1_nearestWanted.1.desc).map (fun q => q.parameters.length) = some 1 := by decide +kernel
theorem pX1_cracksToShow : (parseMethodDescriptor mX1_cracksToShow.1.desc).map (fun q => q.parameters.length) = some 3 := by decide +kernel
theorem pX1_allUses : (parseMethodDescriptor mX1_allUses.1.desc).map (fun q => q.parameters.length) = some 0 := by decide +kernel
theorem pX1_allPrices : (parseMethodDescriptor mX1_allPrices.1.desc).map (fun q => q.parameters.length) = some 0 := by decide +kernel
theorem pX2_isFull : (parseMethodDescriptor mX2_isFull.1.desc).map (fun q => q.parameters.length) = some 0 := by decide +kernel
theorem pX2_taken : (parseMethodDescriptor mX2_taken.1.desc).map (fun q => q.parameters.length) = some 1 := by decide +kernel
theorem pX2_forget : (parseMethodDescriptor mX2_forget.1.desc).map (fun q => q.parameters.length) = some 0 := by decide +kernel
theorem pX2_stateOpened : (parseMethodDescriptor mX2_stateOpened.1.desc).map (fun q => q.parameters.length) = some 1 := by decide +kernel
theorem pX2_isDigit : (parseMethodDescriptor mX2_isDigit.1.desc).map (fun q => q.parameters.length) = some 1 := by decide +kernel
theorem pX2_stateBehind : (parseMethodDescriptor mX2_stateBehind.1.desc).map (fun q => q.parameters.length) = some 2 := by decide +kernel
theorem pX2_fault : (parseMethodDescriptor mX2_fault.1.desc).map (fun q => q.parameters.length) = some 0 := by decide +kernel
theorem pX2_signAt : (parseMethodDescriptor mX2_signAt.1.desc).map (fun q => q.parameters.length) = some 1 := by decide +kernel
theorem pX2_digit : (parseMethodDescriptor mX2_digit.1.desc).map (fun q => q.parameters.length) = some 1 := by decide +kernel
theorem pX2_number : (parseMethodDescriptor mX2_number.1.desc).map (fun q => q.parameters.length) = some 2 := by decide +kernel
theorem pX2_pictureBefore : (parseMethodDescriptor mX2_pictureBefore.1.desc).map (fun q => q.parameters.length) = some 1 := by decide +kernel
theorem pX2_statementComes : (parseMethodDescriptor mX2_statementComes.1.desc).map (fun q => q.parameters.length) = some 3 := by decide +kernel
theorem pX2_toldTo : (parseMethodDescriptor mX2_toldTo.1.desc).map (fun q => q.parameters.length) = some 1 := by decide +kernel
theorem pX3_usable : (parseMethodDescriptor mX3_usable.1.desc).map (fun q => q.parameters.length) = some 2 := by decide +kernel
theorem pX3_dark : (parseMethodDescriptor mX3_dark.1.desc).map (fun q => q.parameters.length) = some 1 := by decide +kernel
theorem pX3_load : (parseMethodDescriptor mX3_load.1.desc).map (fun q => q.parameters.length) = some 4 := by decide +kernel
theorem pX3_isOutOfReach : (parseMethodDescriptor mX3_isOutOfReach.1.desc).map (fun q => q.parameters.length) = some 2 := by decide +kernel
theorem pX3_noteFewest : (parseMethodDescriptor mX3_noteFewest.1.desc).map (fun q => q.parameters.length) = some 2 := by decide +kernel
theorem pX3_seekFewest : (parseMethodDescriptor mX3_seekFewest.1.desc).map (fun q => q.parameters.length) = some 4 := by decide +kernel
theorem pX3_findsFewest : (parseMethodDescriptor mX3_findsFewest.1.desc).map (fun q => q.parameters.length) = some 2 := by decide +kernel
theorem pX3_seekCheapest : (parseMethodDescriptor mX3_seekCheapest.1.desc).map (fun q => q.parameters.length) = some 3 := by decide +kernel
theorem pX3_leastPrice : (parseMethodDescriptor mX3_leastPrice.1.desc).map (fun q => q.parameters.length) = some 2 := by decide +kernel
theorem pX3_seekNear : (parseMethodDescriptor mX3_seekNear.1.desc).map (fun q => q.parameters.length) = some 2 := by decide +kernel
theorem pX3_leastUnlike : (parseMethodDescriptor mX3_leastUnlike.1.desc).map (fun q => q.parameters.length) = some 2 := by decide +kernel
theorem pX3_isShown : (parseMethodDescriptor mX3_isShown.1.desc).map (fun q => q.parameters.length) = some 2 := by decide +kernel
theorem pX3_showable : (parseMethodDescriptor mX3_showable.1.desc).map (fun q => q.parameters.length) = some 2 := by decide +kernel
theorem pX4_layAll : (parseMethodDescriptor mX4_layAll.1.desc).map (fun q => q.parameters.length) = some 2 := by decide +kernel
theorem pX4_isShownByOne : (parseMethodDescriptor mX4_isShownByOne.1.desc).map (fun q => q.parameters.length) = some 2 := by decide +kernel
theorem pX4_findStops : (parseMethodDescriptor mX4_findStops.1.desc).map (fun q => q.parameters.length) = some 2 := by decide +kernel
theorem pX4_arrive : (parseMethodDescriptor mX4_arrive.1.desc).map (fun q => q.parameters.length) = some 3 := by decide +kernel
theorem pX4_walk : (parseMethodDescriptor mX4_walk.1.desc).map (fun q => q.parameters.length) = some 2 := by decide +kernel
theorem pX4_leastSteps : (parseMethodDescriptor mX4_leastSteps.1.desc).map (fun q => q.parameters.length) = some 2 := by decide +kernel
theorem pX4_leastCost : (parseMethodDescriptor mX4_leastCost.1.desc).map (fun q => q.parameters.length) = some 1 := by decide +kernel
theorem pX5_wrongNumber : (parseMethodDescriptor mX5_wrongNumber.1.desc).map (fun q => q.parameters.length) = some 3 := by decide +kernel
theorem pX5_refused : (parseMethodDescriptor mX5_refused.1.desc).map (fun q => q.parameters.length) = some 1 := by decide +kernel
theorem pX5_feed : (parseMethodDescriptor mX5_feed.1.desc).map (fun q => q.parameters.length) = some 1 := by decide +kernel
theorem pX5_lantern : (parseMethodDescriptor mX5_lantern.1.desc).map (fun q => q.parameters.length) = some 0 := by decide +kernel
theorem pX5_wrongSlide : (parseMethodDescriptor mX5_wrongSlide.1.desc).map (fun q => q.parameters.length) = some 1 := by decide +kernel
theorem pX5_wrongWhat : (parseMethodDescriptor mX5_wrongWhat.1.desc).map (fun q => q.parameters.length) = some 2 := by decide +kernel
theorem pX5_first : (parseMethodDescriptor mX5_first.1.desc).map (fun q => q.parameters.length) = some 2 := by decide +kernel
theorem pX5_slide : (parseMethodDescriptor mX5_slide.1.desc).map (fun q => q.parameters.length) = some 2 := by decide +kernel
theorem pX5_wanted : (parseMethodDescriptor mX5_wanted.1.desc).map (fun q => q.parameters.length) = some 1 := by decide +kernel
theorem pX5_heat : (parseMethodDescriptor mX5_heat.1.desc).map (fun q => q.parameters.length) = some 1 := by decide +kernel
theorem pX5_price : (parseMethodDescriptor mX5_price.1.desc).map (fun q => q.parameters.length) = some 2 := by decide +kernel
theorem pX5_wrongSet : (parseMethodDescriptor mX5_wrongSet.1.desc).map (fun q => q.parameters.length) = some 1 := by decide +kernel
theorem pX5_lay : (parseMethodDescriptor mX5_lay.1.desc).map (fun q => q.parameters.length) = some 2 := by decide +kernel
theorem pX5_project : (parseMethodDescriptor mX5_project.1.desc).map (fun q => q.parameters.length) = some 1 := by decide +kernel
theorem pX5_wrongAsked : (parseMethodDescriptor mX5_wrongAsked.1.desc).map (fun q => q.parameters.length) = some 3 := by decide +kernel
theorem pX5_gaps : (parseMethodDescriptor mX5_gaps.1.desc).map (fun q => q.parameters.length) = some 2 := by decide +kernel
theorem pX5_nearest : (parseMethodDescriptor mX5_nearest.1.desc).map (fun q => q.parameters.length) = some 2 := by decide +kernel
theorem pX5_fewest : (parseMethodDescriptor mX5_fewest.1.desc).map (fun q => q.parameters.length) = some 2 := by decide +kernel
theorem pX5_cheapest : (parseMethodDescriptor mX5_cheapest.1.desc).map (fun q => q.parameters.length) = some 1 := by decide +kernel
theorem pX5_near : (parseMethodDescriptor mX5_near.1.desc).map (fun q => q.parameters.length) = some 1 := by decide +kernel
theorem pX5_can : (parseMethodDescriptor mX5_can.1.desc).map (fun q => q.parameters.length) = some 1 := by decide +kernel
theorem pX5_worth : (parseMethodDescriptor mX5_worth.1.desc).map (fun q => q.parameters.length) = some 1 := by decide +kernel
theorem pX5_sure : (parseMethodDescriptor mX5_sure.1.desc).map (fun q => q.parameters.length) = some 3 := by decide +kernel
theorem pX5_who : (parseMethodDescriptor mX5_who.1.desc).map (fun q => q.parameters.length) = some 3 := by decide +kernel
theorem pX5_power : (parseMethodDescriptor mX5_power.1.desc).map (fun q => q.parameters.length) = some 2 := by decide +kernel
theorem pX5_dust : (parseMethodDescriptor mX5_dust.1.desc).map (fun q => q.parameters.length) = some 3 := by decide +kernel
theorem pX5_round : (parseMethodDescriptor mX5_round.1.desc).map (fun q => q.parameters.length) = some 0 := by decide +kernel
theorem pX5_row : (parseMethodDescriptor mX5_row.1.desc).map (fun q => q.parameters.length) = some 1 := by decide +kernel
theorem pX5_judge : (parseMethodDescriptor mX5_judge.1.desc).map (fun q => q.parameters.length) = some 0 := by decide +kernel
theorem pX5_nextSeed : (parseMethodDescriptor mX5_nextSeed.1.desc).map (fun q => q.parameters.length) = some 1 := by decide +kernel
theorem pX5_drawBelow : (parseMethodDescriptor mX5_drawBelow.1.desc).map (fun q => q.parameters.length) = some 2 := by decide +kernel
theorem pX5_seeds : (parseMethodDescriptor mX5_seeds.1.desc).map (fun q => q.parameters.length) = some 2 := by decide +kernel
theorem pX5_image : (parseMethodDescriptor mX5_image.1.desc).map (fun q => q.parameters.length) = some 0 := by decide +kernel
theorem pX5_restore : (parseMethodDescriptor mX5_restore.1.desc).map (fun q => q.parameters.length) = some 0 := by decide +kernel
theorem pX5_count : (parseMethodDescriptor mX5_count.1.desc).map (fun q => q.parameters.length) = some 1 := by decide +kernel
theorem pX6_no : (parseMethodDescriptor mX6_no.1.desc).map (fun q => q.parameters.length) = some 1 := by decide +kernel
theorem pX6_lowest : (parseMethodDescriptor mX6_lowest.1.desc).map (fun q => q.parameters.length) = some 1 := by decide +kernel
theorem pX6_isIn : (parseMethodDescriptor mX6_isIn.1.desc).map (fun q => q.parameters.length) = some 3 := by decide +kernel
theorem pX6_bound : (parseMethodDescriptor mX6_bound.1.desc).map (fun q => q.parameters.length) = some 3 := by decide +kernel
theorem pX6_isSlide : (parseMethodDescriptor mX6_isSlide.1.desc).map (fun q => q.parameters.length) = some 1 := by decide +kernel
theorem pX6_areSlides : (parseMethodDescriptor mX6_areSlides.1.desc).map (fun q => q.parameters.length) = some 1 := by decide +kernel
theorem pX6_feed : (parseMethodDescriptor mX6_feed.1.desc).map (fun q => q.parameters.length) = some 1 := by decide +kernel
theorem pX6_next : (parseMethodDescriptor mX6_next.1.desc).map (fun q => q.parameters.length) = some 0 := by decide +kernel
theorem pX6_readsNumber : (parseMethodDescriptor mX6_readsNumber.1.desc).map (fun q => q.parameters.length) = some 2 := by decide +kernel
theorem pX6_readsPicture : (parseMethodDescriptor mX6_readsPicture.1.desc).map (fun q => q.parameters.length) = some 1 := by decide +kernel
theorem pX6_readsSlide : (parseMethodDescriptor mX6_readsSlide.1.desc).map (fun q => q.parameters.length) = some 1 := by decide +kernel
theorem pX6_statement : (parseMethodDescriptor mX6_statement.1.desc).map (fun q => q.parameters.length) = some 0 := by decide +kernel
theorem pX6_comes : (parseMethodDescriptor mX6_comes.1.desc).map (fun q => q.parameters.length) = some 1 := by decide +kernel
theorem pX6_passes : (parseMethodDescriptor mX6_passes.1.desc).map (fun q => q.parameters.length) = some 1 := by decide +kernel
theorem pX6_passOne : (parseMethodDescriptor mX6_passOne.1.desc).map (fun q => q.parameters.length) = some 1 := by decide +kernel
theorem pX6_passesAll : (parseMethodDescriptor mX6_passesAll.1.desc).map (fun q => q.parameters.length) = some 2 := by decide +kernel
theorem pX6_lantern : (parseMethodDescriptor mX6_lantern.1.desc).map (fun q => q.parameters.length) = some 0 := by decide +kernel
theorem pX6_image : (parseMethodDescriptor mX6_image.1.desc).map (fun q => q.parameters.length) = some 0 := by decide +kernel
theorem pX6_restore : (parseMethodDescriptor mX6_restore.1.desc).map (fun q => q.parameters.length) = some 0 := by decide +kernel
theorem pX6_bits : (parseMethodDescriptor mX6_bits.1.desc).map (fun q => q.parameters.length) = some 1 := by decide +kernel
theorem pX6_mirrored : (parseMethodDescriptor mX6_mirrored.1.desc).map (fun q => q.parameters.length) = some 1 := by decide +kernel
theorem pX6_upsideDown : (parseMethodDescriptor mX6_upsideDown.1.desc).map (fun q => q.parameters.length) = some 1 := by decide +kernel
theorem pX6_shifted : (parseMethodDescriptor mX6_shifted.1.desc).map (fun q => q.parameters.length) = some 2 := by decide +kernel
theorem pX6_onSlide : (parseMethodDescriptor mX6_onSlide.1.desc).map (fun q => q.parameters.length) = some 1 := by decide +kernel
theorem pX6_laid : (parseMethodDescriptor mX6_laid.1.desc).map (fun q => q.parameters.length) = some 2 := by decide +kernel
theorem pX6_slide : (parseMethodDescriptor mX6_slide.1.desc).map (fun q => q.parameters.length) = some 2 := by decide +kernel
theorem pX6_wanted : (parseMethodDescriptor mX6_wanted.1.desc).map (fun q => q.parameters.length) = some 1 := by decide +kernel
theorem pX6_heat : (parseMethodDescriptor mX6_heat.1.desc).map (fun q => q.parameters.length) = some 1 := by decide +kernel
theorem pX6_price : (parseMethodDescriptor mX6_price.1.desc).map (fun q => q.parameters.length) = some 2 := by decide +kernel
theorem pX6_lay : (parseMethodDescriptor mX6_lay.1.desc).map (fun q => q.parameters.length) = some 2 := by decide +kernel
theorem pX6_projects : (parseMethodDescriptor mX6_projects.1.desc).map (fun q => q.parameters.length) = some 1 := by decide +kernel
theorem pX6_isShow : (parseMethodDescriptor mX6_isShow.1.desc).map (fun q => q.parameters.length) = some 1 := by decide +kernel
theorem pX6_project : (parseMethodDescriptor mX6_project.1.desc).map (fun q => q.parameters.length) = some 1 := by decide +kernel
theorem pX6_groups : (parseMethodDescriptor mX6_groups.1.desc).map (fun q => q.parameters.length) = some 1 := by decide +kernel
theorem pX6_gaps : (parseMethodDescriptor mX6_gaps.1.desc).map (fun q => q.parameters.length) = some 2 := by decide +kernel
theorem pX6_nearest : (parseMethodDescriptor mX6_nearest.1.desc).map (fun q => q.parameters.length) = some 2 := by decide +kernel
theorem pX6_pricesOf : (parseMethodDescriptor mX6_pricesOf.1.desc).map (fun q => q.parameters.length) = some 1 := by decide +kernel
theorem pX6_tellsShown : (parseMethodDescriptor mX6_tellsShown.1.desc).map (fun q => q.parameters.length) = some 3 := by decide +kernel
theorem pX6_findShown : (parseMethodDescriptor mX6_findShown.1.desc).map (fun q => q.parameters.length) = some 1 := by decide +kernel
theorem pX6_fewest : (parseMethodDescriptor mX6_fewest.1.desc).map (fun q => q.parameters.length) = some 2 := by decide +kernel
theorem pX6_cheapest : (parseMethodDescriptor mX6_cheapest.1.desc).map (fun q => q.parameters.length) = some 1 := by decide +kernel
theorem pX6_near : (parseMethodDescriptor mX6_near.1.desc).map (fun q => q.parameters.length) = some 1 := by decide +kernel
theorem pX6_canWithout : (parseMethodDescriptor mX6_canWithout.1.desc).map (fun q => q.parameters.length) = some 1 := by decide +kernel
theorem pX6_can : (parseMethodDescriptor mX6_can.1.desc).map (fun q => q.parameters.length) = some 1 := by decide +kernel
theorem pX6_worth : (parseMethodDescriptor mX6_worth.1.desc).map (fun q => q.parameters.length) = some 1 := by decide +kernel
theorem pX6_notAsked : (parseMethodDescriptor mX6_notAsked.1.desc).map (fun q => q.parameters.length) = some 4 := by decide +kernel
theorem pX6_sure : (parseMethodDescriptor mX6_sure.1.desc).map (fun q => q.parameters.length) = some 3 := by decide +kernel
theorem pX6_who : (parseMethodDescriptor mX6_who.1.desc).map (fun q => q.parameters.length) = some 3 := by decide +kernel
theorem pX6_divisor : (parseMethodDescriptor mX6_divisor.1.desc).map (fun q => q.parameters.length) = some 2 := by decide +kernel
theorem pX6_dust : (parseMethodDescriptor mX6_dust.1.desc).map (fun q => q.parameters.length) = some 3 := by decide +kernel
theorem pX6_findAsked : (parseMethodDescriptor mX6_findAsked.1.desc).map (fun q => q.parameters.length) = some 0 := by decide +kernel
theorem pX6_placeOf : (parseMethodDescriptor mX6_placeOf.1.desc).map (fun q => q.parameters.length) = some 3 := by decide +kernel
theorem pX6_lowers : (parseMethodDescriptor mX6_lowers.1.desc).map (fun q => q.parameters.length) = some 2 := by decide +kernel
theorem pX6_goesFrom : (parseMethodDescriptor mX6_goesFrom.1.desc).map (fun q => q.parameters.length) = some 4 := by decide +kernel
theorem pX6_round : (parseMethodDescriptor mX6_round.1.desc).map (fun q => q.parameters.length) = some 0 := by decide +kernel
theorem pX6_row : (parseMethodDescriptor mX6_row.1.desc).map (fun q => q.parameters.length) = some 1 := by decide +kernel
theorem pX6_isWish : (parseMethodDescriptor mX6_isWish.1.desc).map (fun q => q.parameters.length) = some 1 := by decide +kernel
theorem pX6_judge : (parseMethodDescriptor mX6_judge.1.desc).map (fun q => q.parameters.length) = some 0 := by decide +kernel
theorem pX6_seeds : (parseMethodDescriptor mX6_seeds.1.desc).map (fun q => q.parameters.length) = some 2 := by decide +kernel
theorem pX6_count : (parseMethodDescriptor mX6_count.1.desc).map (fun q => q.parameters.length) = some 1 := by decide +kernel
end
section
/-! numbers: bits of ints as bits of natural numbers (the rows bt .. b_sshr, fa_and, fa_or, fb_xorI began as kit/laws texts) -/
def bt (x : Int32) (i : Nat) : Bool := x.toBitVec.getLsbD i
theorem b_ext {x y : Int32} (h : ∀ i, i < 32 → bt x i = bt y i) : x = y := Int32.toBitVec_inj.mp (BitVec.eq_of_getLsbD_eq (fun i hi => h i hi))
theorem b_or (x y : Int32) (i : Nat) : bt (x ||| y) i = (bt x i || bt y i) := by unfold bt; rw [Int32.toBitVec_or, BitVec.getLsbD_or]
theorem b_and (x y : Int32) (i : Nat) : bt (x &&& y) i = (bt x i && bt y i) := by unfold bt; rw [Int32.toBitVec_and, BitVec.getLsbD_and]
theorem b_xor (x y : Int32) (i : Nat) : bt (x ^^^ y) i = (bt x i ^^ bt y i) := by unfold bt; rw [Int32.toBitVec_xor, BitVec.getLsbD_xor]
theorem b_big {x : Int32} {i : Nat} (h : 32 ≤ i) : bt x i = false := BitVec.getLsbD_of_ge _ _ h
theorem b_m1 : ∀ i, i < 32 → bt (-1) i = true := by decide +kernel
theorem s_l : ∀ n, n < 32 → ((nI n &&& 31).toBitVec.smod 32).toNat = n := by decide +kernel
theorem s_u : ∀ n, n < 32 → (((nI n).toUInt32 &&& Int32.toUInt32 31).toBitVec % 32).toNat = n := by decide +kernel
theorem b_shl (n : Nat) (hn : n < 32) (x : Int32) {i : Nat} (hi : i < 32) : bt (x <<< (nI n &&& 31)) i = (decide (n ≤ i) && bt x (i - n)) := by
  unfold bt
  rw [Int32.toBitVec_shiftLeft]
  show (x.toBitVec <<< ((nI n &&& 31).toBitVec.smod 32).toNat).getLsbD i = _
  rw [s_l n hn, BitVec.getLsbD_shiftLeft]
  rcases Nat.lt_or_ge i n with h | h
  · simp [h, Nat.not_le.mpr h]
  · simp [hi, h, Nat.not_lt.mpr h]
theorem b_ushr (n : Nat) (hn : n < 32) (x : Int32) (i : Nat) : bt ((x.toUInt32 >>> ((nI n).toUInt32 &&& Int32.toUInt32 31)).toInt32) i = bt x (n + i) := by
  show (x.toUInt32 >>> ((nI n).toUInt32 &&& Int32.toUInt32 31)).toBitVec.getLsbD i = x.toUInt32.toBitVec.getLsbD (n + i)
  rw [UInt32.toBitVec_shiftRight]
  show (x.toUInt32.toBitVec >>> (((nI n).toUInt32 &&& Int32.toUInt32 31).toBitVec % 32).toNat).getLsbD i = _
  rw [s_u n hn, BitVec.getLsbD_ushiftRight]
theorem b_sshr (n : Nat) (hn : n < 32) (x : Int32) {i : Nat} (hi : i < 32) : bt (x >>> (nI n &&& 31)) i = if n + i < 32 then bt x (n + i) else bt x 31 := by
  unfold bt
  rw [Int32.toBitVec_shiftRight]
  show (x.toBitVec.sshiftRight ((nI n &&& 31).toBitVec.smod 32).toNat).getLsbD i = _
  rw [s_l n hn, BitVec.getLsbD_sshiftRight, BitVec.msb_eq_getLsbD_last]
  simp [hi]
theorem fa_lt (a b : Int32) : a < b ↔ a.toInt < b.toInt := Int32.lt_iff_toInt_lt
theorem fa_le (a b : Int32) : a ≤ b ↔ a.toInt ≤ b.toInt := Int32.le_iff_toInt_le
theorem fa_eq (a b : Int32) : a = b ↔ a.toInt = b.toInt := Int32.toInt_inj.symm
theorem fa_lit (n : Nat) : (OfNat.ofNat n : Int32) = nI n := rfl
theorem fa_and (a b : Nat) : nI a &&& nI b = nI (a &&& b) := by
  apply Int32.toBitVec_inj.1
  show BitVec.ofNat 32 a &&& BitVec.ofNat 32 b = BitVec.ofNat 32 (a &&& b)
  apply BitVec.eq_of_getLsbD_eq
  intro i hi
  simp [hi]
theorem fa_or (a b : Nat) : nI a ||| nI b = nI (a ||| b) := by
  apply Int32.toBitVec_inj.1
  show BitVec.ofNat 32 a ||| BitVec.ofNat 32 b = BitVec.ofNat 32 (a ||| b)
  apply BitVec.eq_of_getLsbD_eq
  intro i hi
  simp [hi]
theorem fb_xorI (a b : Nat) : nI a ^^^ nI b = nI (a ^^^ b) := by
  apply Int32.toBitVec_inj.1
  show BitVec.ofNat 32 a ^^^ BitVec.ofNat 32 b = BitVec.ofNat 32 (a ^^^ b)
  apply BitVec.eq_of_getLsbD_eq
  intro i hi
  simp [hi]
theorem fb_bit_nat (n j : Nat) : n &&& 2 ^ j = 0 ↔ n.testBit j = false := by
  constructor
  · intro h
    have h1 : (n &&& 2 ^ j).testBit j = false := by rw [h]; simp
    rw [Nat.testBit_and] at h1
    simpa using h1
  · intro h
    apply Nat.eq_of_testBit_eq
    intro i
    rw [Nat.testBit_and]
    by_cases hi : j = i
    · subst hi; simp [h]
    · first | (simp [Nat.testBit_two_pow, hi]; done) | (simp [Nat.testBit_two_pow_of_ne hi]; done)
theorem fb_bit_set (n j i : Nat) : (n ||| 2 ^ j).testBit i = (n.testBit i || decide (i = j)) := by
  rw [Nat.testBit_or]
  by_cases h : j = i
  · subst h; simp
  · have h2 : ¬ i = j := fun e => h e.symm
    first | (simp [Nat.testBit_two_pow, h, h2]; done) | (simp [Nat.testBit_two_pow_of_ne h, h2]; done)
theorem fb_bit_flip (n j i : Nat) : (n ^^^ 2 ^ j).testBit i = (n.testBit i ^^ decide (i = j)) := by
  rw [Nat.testBit_xor]
  by_cases h : j = i
  · subst h; simp
  · have h2 : ¬ i = j := fun e => h e.symm
    first | (simp [Nat.testBit_two_pow, h, h2]; done) | (simp [Nat.testBit_two_pow_of_ne h, h2]; done)
theorem i_andn (x y : Int32) : x &&& (y ^^^ (-1)) = x ^^^ (x &&& y) := by
  refine b_ext (fun i hi => ?_)
  rw [b_and, b_xor, b_xor, b_and, b_m1 i hi]
  cases bt x i <;> cases bt y i <;> rfl
theorem nI_andn (a b : Nat) : nI a &&& (nI b ^^^ (-1)) = nI (a ^^^ (a &&& b)) := by rw [i_andn, fa_and, fb_xorI]
theorem nI_shl {m i : Nat} (hi : i < 32) (h : m * 2 ^ i < 2 ^ 32) : nI m <<< (nI i &&& 31) = nI (m * 2 ^ i) := pk_shlN _ i (s_l i hi) h
theorem nI_shr {m i : Nat} (hi : i < 32) (h : m < 2 ^ 31) : nI m >>> (nI i &&& 31) = nI (m / 2 ^ i) := pk_shrN h _ i (s_l i hi)
theorem nI_ushr {m i : Nat} (hi : i < 32) (h : m < 2 ^ 32) : ((nI m).toUInt32 >>> ((nI i).toUInt32 &&& Int32.toUInt32 31)).toInt32 = nI (m / 2 ^ i) := pk_ushrN h _ i (s_u i hi)
theorem nI_pow {i : Nat} (hi : i < 32) : (1 : Int32) <<< (nI i &&& 31) = nI (2 ^ i) := by
  have h := nI_shl (m := 1) hi (by rw [Nat.one_mul]; exact Nat.pow_lt_pow_right (by decide) hi)
  rw [Nat.one_mul] at h
  exact h
theorem nI_and1 (m : Nat) : nI m &&& 1 = nI (m % 2) := by
  rw [show (1 : Int32) = nI 1 from rfl, fa_and]
  exact congrArg nI (Nat.and_two_pow_sub_one_eq_mod m 1)
theorem nI_bit {m i : Nat} (hi : i < 32) (h : m < 2 ^ 31) : nI m >>> (nI i &&& 31) &&& 1 = nI (m / 2 ^ i % 2) := by rw [nI_shr hi h, nI_and1]
theorem bit_tb (m i : Nat) : m / 2 ^ i % 2 = if m.testBit i then 1 else 0 := by
  rw [Nat.testBit_eq_decide_div_mod_eq]
  rcases (by omega : m / 2 ^ i % 2 = 0 ∨ m / 2 ^ i % 2 = 1) with h | h <;> simp [h]
theorem nI_bit0 {m i : Nat} (hi : i < 32) (h : m < 2 ^ 31) : nI m >>> (nI i &&& 31) &&& 1 = 0 ↔ m.testBit i = false := by
  rw [nI_bit hi h, bit_tb]
  cases m.testBit i
  · exact ⟨fun _ => rfl, fun _ => rfl⟩
  · exact ⟨fun h => absurd h (by decide), fun h => by cases h⟩
theorem nI_bit1 {m i : Nat} (hi : i < 32) (h : m < 2 ^ 31) : nI m >>> (nI i &&& 31) &&& 1 = 1 ↔ m.testBit i = true := by
  rw [nI_bit hi h, bit_tb]
  cases m.testBit i
  · exact ⟨fun h => absurd h (by decide), fun h => by cases h⟩
  · exact ⟨fun _ => rfl, fun _ => rfl⟩
/-- pictures moved: bit c of p comes to place g c -/
def pm (g : Nat → Nat) (p : Nat) : Nat → Nat
  | 0 => 0
  | c + 1 => pm g p c ||| (p / 2 ^ c % 2) * 2 ^ (g c)
def gMir (c : Nat) : Nat := c / 4 * 4 + 3 - c % 4
def gFlip (c : Nat) : Nat := 12 - c / 4 * 4 + c % 4
def gShift (by_ c : Nat) : Nat := c / 4 * 4 + (c % 4 + by_) % 4
def mirN (p : Nat) : Nat := pm gMir p 16
def flipN (p : Nat) : Nat := pm gFlip p 16
def shiftN (p k : Nat) : Nat := pm (gShift k) p 16
def mirC (p : Nat) : Nat := ((((p &&& 13107) * 4 ||| (p &&& 52428) / 4) &&& 21845) * 2) ||| ((((p &&& 13107) * 4 ||| (p &&& 52428) / 4) &&& 43690) / 2)
/-- functions that go bit by bit -/
def lin (F : Nat → Nat) : Prop := F 0 = 0 ∧ ∀ a b, F (a ||| b) = F a ||| F b
theorem or_bit {p n : Nat} (h : p < 2 ^ (n + 1)) : p = p % 2 ^ n ||| (p / 2 ^ n % 2) * 2 ^ n := by
  have h1 : p / 2 ^ n < 2 := by
    rw [Nat.div_lt_iff_lt_mul (Nat.two_pow_pos n)]
    rw [Nat.pow_succ] at h
    omega
  have h2 : p % 2 ^ n < 2 ^ n := Nat.mod_lt _ (Nat.two_pow_pos n)
  have h3 := Nat.two_pow_add_eq_or_of_lt h2 (p / 2 ^ n)
  rw [Nat.mod_eq_of_lt h1, Nat.or_comm, Nat.mul_comm (p / 2 ^ n), ← h3]
  exact (Nat.div_add_mod p (2 ^ n)).symm
theorem lin_ext {F G : Nat → Nat} (hF : lin F) (hG : lin G) : ∀ n, (∀ k, k < n → F (2 ^ k) = G (2 ^ k)) → ∀ p, p < 2 ^ n → F p = G p
  | 0, _, p, hp => by
    have : p = 0 := by simpa using hp
    rw [this, hF.1, hG.1]
  | n + 1, h, p, hp => by
    have e := or_bit hp
    have ih := lin_ext hF hG n (fun k hk => h k (by omega)) (p % 2 ^ n) (Nat.mod_lt _ (Nat.two_pow_pos n))
    rw [e, hF.2, hG.2, ih]
    rcases (by omega : p / 2 ^ n % 2 = 0 ∨ p / 2 ^ n % 2 = 1) with q | q
    · rw [q, Nat.zero_mul, hF.1, hG.1]
    · rw [q, Nat.one_mul, h n (by omega)]
theorem lin_and {F : Nat → Nat} (m : Nat) (h : lin F) : lin (fun p => F p &&& m) := ⟨by simp [h.1], fun a b => by
  simp only [h.2]
  apply Nat.eq_of_testBit_eq
  intro i
  simp only [Nat.testBit_and, Nat.testBit_or]
  cases (F a).testBit i <;> cases (F b).testBit i <;> cases m.testBit i <;> rfl⟩
theorem lin_or {F G : Nat → Nat} (h : lin F) (h2 : lin G) : lin (fun p => F p ||| G p) := ⟨by simp [h.1, h2.1], fun a b => by
  simp only [h.2, h2.2]
  apply Nat.eq_of_testBit_eq
  intro i
  simp only [Nat.testBit_or]
  cases (F a).testBit i <;> cases (F b).testBit i <;> cases (G a).testBit i <;> cases (G b).testBit i <;> rfl⟩
theorem lin_mul {F : Nat → Nat} (k : Nat) (h : lin F) : lin (fun p => F p * 2 ^ k) := ⟨by simp [h.1], fun a b => by
  simp only [h.2, ← Nat.shiftLeft_eq]
  exact Nat.shiftLeft_or_distrib⟩
theorem lin_div {F : Nat → Nat} (k : Nat) (h : lin F) : lin (fun p => F p / 2 ^ k) := ⟨by simp [h.1], fun a b => by
  simp only [h.2, ← Nat.shiftRight_eq_div_pow]
  exact Nat.shiftRight_or_distrib⟩
theorem lin_id : lin (fun p => p) := ⟨rfl, fun _ _ => rfl⟩
theorem lin_comp {F G : Nat → Nat} (h : lin F) (h2 : lin G) : lin (fun p => F (G p)) := ⟨by simp [h.1, h2.1], fun a b => by simp only [h2.2, h.2]⟩
theorem lin_pm (g : Nat → Nat) : ∀ c, lin (fun p => pm g p c)
  | 0 => ⟨rfl, fun _ _ => by simp [pm]⟩
  | c + 1 => by
    refine lin_or (lin_pm g c) ⟨by simp, fun a b => ?_⟩
    simp only [bit_tb, Nat.testBit_or]
    cases a.testBit c <;> cases b.testBit c <;> simp
theorem pm_lt {g : Nat → Nat} {p n : Nat} : ∀ c, (∀ i, i < c → g i < n) → pm g p c < 2 ^ n
  | 0, _ => Nat.two_pow_pos n
  | c + 1, h => by
    refine Nat.or_lt_two_pow (pm_lt c (fun i hi => h i (by omega))) ?_
    rcases (by omega : p / 2 ^ c % 2 = 0 ∨ p / 2 ^ c % 2 = 1) with q | q
    · rw [q, Nat.zero_mul]; exact Nat.two_pow_pos n
    · rw [q, Nat.one_mul]; exact Nat.pow_lt_pow_right (by decide) (h c (by omega))
theorem mirN_lt (p : Nat) : mirN p < 65536 := pm_lt (n := 16) 16 (by decide)
theorem flipN_lt (p : Nat) : flipN p < 65536 := pm_lt (n := 16) 16 (by decide)
theorem shiftN_lt (p k : Nat) : shiftN p k < 65536 := pm_lt (n := 16) 16 (fun i hi => by unfold gShift; omega)
theorem mirC_eq {p : Nat} (h : p < 65536) : mirC p = mirN p := by
  refine lin_ext (F := mirC) (G := mirN) ?_ (lin_pm _ _) 16 (by decide +kernel) p h
  have h1 : lin (fun p : Nat => (p &&& 13107) * 2 ^ 2 ||| (p &&& 52428) / 2 ^ 2) := lin_or (lin_mul 2 (lin_and _ lin_id)) (lin_div 2 (lin_and _ lin_id))
  exact lin_or (lin_mul 1 (lin_and _ h1)) (lin_div 1 (lin_and _ h1))
def flipC (p : Nat) : Nat := ((((p &&& 255) * 256 ||| (p &&& 65280) / 256) &&& 3855) * 16) ||| ((((p &&& 255) * 256 ||| (p &&& 65280) / 256) &&& 61680) / 16)
theorem flipC_eq {p : Nat} (h : p < 65536) : flipC p = flipN p := by
  refine lin_ext (F := flipC) (G := flipN) ?_ (lin_pm _ _) 16 (by decide +kernel) p h
  have h1 : lin (fun p : Nat => (p &&& 255) * 2 ^ 8 ||| (p &&& 65280) / 2 ^ 8) := lin_or (lin_mul 8 (lin_and _ lin_id)) (lin_div 8 (lin_and _ lin_id))
  exact lin_or (lin_mul 4 (lin_and _ h1)) (lin_div 4 (lin_and _ h1))
def shC (p : Nat) : Nat := (p &&& 4294932343) * 2 ||| (p &&& 34952) / 8
theorem lin_shC : lin shC := lin_or (lin_mul 1 (lin_and _ lin_id)) (lin_div 3 (lin_and _ lin_id))
theorem shC_eq {p k : Nat} (h : p < 65536) (hk : k < 4) : shC (shiftN p k) = shiftN p (k + 1) := by
  rcases (by omega : k = 0 ∨ k = 1 ∨ k = 2 ∨ k = 3) with rfl | rfl | rfl | rfl
  · exact lin_ext (F := fun p => shC (shiftN p 0)) (G := fun p => shiftN p 1) (lin_comp lin_shC (lin_pm _ _)) (lin_pm _ _) 16 (by decide +kernel) p h
  · exact lin_ext (F := fun p => shC (shiftN p 1)) (G := fun p => shiftN p 2) (lin_comp lin_shC (lin_pm _ _)) (lin_pm _ _) 16 (by decide +kernel) p h
  · exact lin_ext (F := fun p => shC (shiftN p 2)) (G := fun p => shiftN p 3) (lin_comp lin_shC (lin_pm _ _)) (lin_pm _ _) 16 (by decide +kernel) p h
  · exact lin_ext (F := fun p => shC (shiftN p 3)) (G := fun p => shiftN p 4) (lin_comp lin_shC (lin_pm _ _)) (lin_pm _ _) 16 (by decide +kernel) p h
theorem shiftN_0 {p : Nat} (h : p < 65536) : shiftN p 0 = p := lin_ext (F := fun p => shiftN p 0) (G := fun p => p) (lin_pm _ _) lin_id 16 (by decide +kernel) p h
/-- how many bits -/
def popL (p : Nat) : Nat → Nat
  | 0 => 0
  | c + 1 => popL p c + p / 2 ^ c % 2
def pop (p : Nat) : Nat := popL p 16
theorem popL_ge {p n : Nat} (h : p < 2 ^ n) : ∀ k, popL p (n + k) = popL p n
  | 0 => rfl
  | k + 1 => by
    show popL p (n + k) + p / 2 ^ (n + k) % 2 = _
    rw [popL_ge h k, Nat.div_eq_of_lt (Nat.lt_of_lt_of_le h (Nat.pow_le_pow_right (by decide) (by omega)))]
    rfl
theorem pop31 {p : Nat} (h : p < 65536) : popL p 31 = pop p := popL_ge (n := 16) h 15
theorem popL_le (p : Nat) : ∀ k, popL p k ≤ k
  | 0 => Nat.le_refl 0
  | k + 1 => by
    have := popL_le p k
    show popL p k + p / 2 ^ k % 2 ≤ k + 1
    omega
theorem pop_le (p : Nat) : pop p ≤ 16 := popL_le p 16
theorem and16 (a b c d : Nat) (ha : a < 16) (hc : c < 16) : (a + 16 * b) &&& (c + 16 * d) = (a &&& c) + 16 * (b &&& d) := by
  have e : ∀ x y : Nat, x < 16 → x + 16 * y = 2 ^ 4 * y ||| x := fun x y hx => by rw [← Nat.two_pow_add_eq_or_of_lt (i := 4) hx, Nat.add_comm]
  have hac : a &&& c < 16 := Nat.lt_of_le_of_lt Nat.and_le_left ha
  rw [e a b ha, e c d hc, e _ _ hac]
  apply Nat.eq_of_testBit_eq
  intro i
  simp only [Nat.testBit_and, Nat.testBit_or, Nat.testBit_two_pow_mul]
  by_cases h : 4 ≤ i
  · have h1 : a.testBit i = false := Nat.testBit_lt_two_pow (Nat.lt_of_lt_of_le ha (Nat.pow_le_pow_right (n := 2) (by decide) h))
    have h2 : c.testBit i = false := Nat.testBit_lt_two_pow (Nat.lt_of_lt_of_le hc (Nat.pow_le_pow_right (n := 2) (by decide) h))
    simp [h, h1, h2]
  · simp [h]

def bc1 (i : Int32) : Int32 := i - ((i.toUInt32 >>> ((1 : Int32).toUInt32 &&& Int32.toUInt32 31)).toInt32 &&& 1431655765)
def bc2 (i : Int32) : Int32 := (i &&& 858993459) + ((i.toUInt32 >>> ((2 : Int32).toUInt32 &&& Int32.toUInt32 31)).toInt32 &&& 858993459)
def bc3 (i : Int32) : Int32 := (i + (i.toUInt32 >>> ((4 : Int32).toUInt32 &&& Int32.toUInt32 31)).toInt32) &&& 252645135
def bc4 (i : Int32) : Int32 := i + (i.toUInt32 >>> ((8 : Int32).toUInt32 &&& Int32.toUInt32 31)).toInt32
def bc5 (i : Int32) : Int32 := i + (i.toUInt32 >>> ((16 : Int32).toUInt32 &&& Int32.toUInt32 31)).toInt32
def bcI (i : Int32) : Int32 := bc5 (bc4 (bc3 (bc2 (bc1 i)))) &&& 63
theorem n4_1 : ∀ n, n < 16 → ∀ b, b < 2 → (n / 2 + 8 * b) &&& 5 = n / 2 &&& 5 := by decide +kernel
theorem n4_2 : ∀ n, n < 16 → n / 2 &&& 5 ≤ n ∧ (n / 2 &&& 5) < 16 := by decide +kernel
theorem n4_3 : ∀ n, n < 16 → ∀ b, b < 4 → (n / 4 + 4 * b) &&& 3 = n / 4 &&& 3 := by decide +kernel
theorem n4_4 : ∀ n, n < 16 → ((n - (n / 2 &&& 5)) &&& 3) + ((n - (n / 2 &&& 5)) / 4 &&& 3) = n % 2 + n / 2 % 2 + n / 4 % 2 + n / 8 % 2 := by decide +kernel
theorem and_nib (a0 a1 a2 a3 m : Nat) (h0 : a0 < 16) (h1 : a1 < 16) (h2 : a2 < 16) (h3 : a3 < 16) (b0 b1 b2 b3 b4 : Nat) (g0 : b0 < 16) (g1 : b1 < 16) (g2 : b2 < 16) (g3 : b3 < 16) (hm : m = b0 + 16 * (b1 + 16 * (b2 + 16 * (b3 + 16 * b4)))) : (a0 + 16 * (a1 + 16 * (a2 + 16 * a3))) &&& m = (a0 &&& b0) + 16 * ((a1 &&& b1) + 16 * ((a2 &&& b2) + 16 * (a3 &&& b3))) := by
  rw [hm, and16 _ _ _ _ h0 g0, and16 _ _ _ _ h1 g1, and16 _ _ _ _ h2 g2]
  have := and16 a3 0 b3 b4 h3 g3
  rw [Nat.zero_and, Nat.mul_zero, Nat.add_zero, Nat.add_zero] at this
  rw [this]
theorem sub_nib {n0 n1 n2 n3 t0 t1 t2 t3 : Nat} (h0 : t0 ≤ n0) (h1 : t1 ≤ n1) (h2 : t2 ≤ n2) (h3 : t3 ≤ n3) : (n0 + 16 * (n1 + 16 * (n2 + 16 * n3))) - (t0 + 16 * (t1 + 16 * (t2 + 16 * t3))) = (n0 - t0) + 16 * ((n1 - t1) + 16 * ((n2 - t2) + 16 * (n3 - t3))) := by omega
theorem le_nib {n0 n1 n2 n3 t0 t1 t2 t3 : Nat} (h0 : t0 ≤ n0) (h1 : t1 ≤ n1) (h2 : t2 ≤ n2) (h3 : t3 ≤ n3) : (t0 + 16 * (t1 + 16 * (t2 + 16 * t3))) ≤ (n0 + 16 * (n1 + 16 * (n2 + 16 * n3))) := by omega
theorem half_nib (n0 n1 n2 n3 : Nat) : (n0 + 16 * (n1 + 16 * (n2 + 16 * n3))) / 2 = (n0 / 2 + 8 * (n1 % 2)) + 16 * ((n1 / 2 + 8 * (n2 % 2)) + 16 * ((n2 / 2 + 8 * (n3 % 2)) + 16 * (n3 / 2))) := by omega
theorem quart_nib (n0 n1 n2 n3 : Nat) : (n0 + 16 * (n1 + 16 * (n2 + 16 * n3))) / 4 = (n0 / 4 + 4 * (n1 % 4)) + 16 * ((n1 / 4 + 4 * (n2 % 4)) + 16 * ((n2 / 4 + 4 * (n3 % 4)) + 16 * (n3 / 4))) := by omega
theorem pop_nib {n m : Nat} (hn : n < 16) : ∀ j, popL (n + 16 * m) (4 + j) = popL n 4 + popL m j
  | 0 => by
    simp only [popL, Nat.add_zero]
    omega
  | j + 1 => by
    show popL (n + 16 * m) (4 + j) + (n + 16 * m) / 2 ^ (4 + j) % 2 = popL n 4 + (popL m j + m / 2 ^ j % 2)
    rw [pop_nib hn j, Nat.pow_add, ← Nat.div_div_eq_div_mul, show (n + 16 * m) / 2 ^ 4 = m by omega, Nat.add_assoc]
theorem pop_4 {n0 n1 n2 n3 : Nat} (h0 : n0 < 16) (h1 : n1 < 16) (h2 : n2 < 16) : pop (n0 + 16 * (n1 + 16 * (n2 + 16 * n3))) = popL n0 4 + (popL n1 4 + (popL n2 4 + popL n3 4)) := by
  unfold pop
  rw [show (16 : Nat) = 4 + (4 + (4 + 4)) from rfl, pop_nib h0, pop_nib h1, pop_nib h2]
theorem bc_s1 {n0 n1 n2 n3 : Nat} (h0 : n0 < 16) (h1 : n1 < 16) (h2 : n2 < 16) (h3 : n3 < 16) : bc1 (nI (n0 + 16 * (n1 + 16 * (n2 + 16 * n3)))) = nI ((n0 - (n0 / 2 &&& 5)) + 16 * ((n1 - (n1 / 2 &&& 5)) + 16 * ((n2 - (n2 / 2 &&& 5)) + 16 * (n3 - (n3 / 2 &&& 5))))) := by
  unfold bc1
  have e := half_nib n0 n1 n2 n3
  rw [show ((nI (n0 + 16 * (n1 + 16 * (n2 + 16 * n3)))).toUInt32 >>> ((1 : Int32).toUInt32 &&& Int32.toUInt32 31)).toInt32 = nI ((n0 + 16 * (n1 + 16 * (n2 + 16 * n3))) / 2) from nI_ushr (i := 1) (by decide) (by omega), show (1431655765 : Int32) = nI 1431655765 from rfl, fa_and, e,
    and_nib _ _ _ _ _ (by omega) (by omega) (by omega) (by omega) 5 5 5 5 21845 (by decide) (by decide) (by decide) (by decide) (by decide), n4_1 n0 h0 _ (by omega), n4_1 n1 h1 _ (by omega), n4_1 n2 h2 _ (by omega)]
  rw [pk_sub (le_nib (n4_2 n0 h0).1 (n4_2 n1 h1).1 (n4_2 n2 h2).1 (n4_2 n3 h3).1), sub_nib (n4_2 n0 h0).1 (n4_2 n1 h1).1 (n4_2 n2 h2).1 (n4_2 n3 h3).1]
theorem add_nib (a0 a1 a2 a3 b0 b1 b2 b3 : Nat) : (a0 + 16 * (a1 + 16 * (a2 + 16 * a3))) + (b0 + 16 * (b1 + 16 * (b2 + 16 * b3))) = (a0 + b0) + 16 * ((a1 + b1) + 16 * ((a2 + b2) + 16 * (a3 + b3))) := by omega
theorem bc_s2 {n0 n1 n2 n3 : Nat} (h0 : n0 < 16) (h1 : n1 < 16) (h2 : n2 < 16) (h3 : n3 < 16) : bc2 (nI (n0 + 16 * (n1 + 16 * (n2 + 16 * n3)))) = nI (((n0 &&& 3) + (n0 / 4 &&& 3)) + 16 * (((n1 &&& 3) + (n1 / 4 &&& 3)) + 16 * (((n2 &&& 3) + (n2 / 4 &&& 3)) + 16 * ((n3 &&& 3) + (n3 / 4 &&& 3))))) := by
  unfold bc2
  have e := quart_nib n0 n1 n2 n3
  rw [show ((nI (n0 + 16 * (n1 + 16 * (n2 + 16 * n3)))).toUInt32 >>> ((2 : Int32).toUInt32 &&& Int32.toUInt32 31)).toInt32 = nI ((n0 + 16 * (n1 + 16 * (n2 + 16 * n3))) / 4) from nI_ushr (i := 2) (by decide) (by omega), show (858993459 : Int32) = nI 858993459 from rfl, fa_and, fa_and, e,
    and_nib _ _ _ _ _ h0 h1 h2 h3 3 3 3 3 13107 (by decide) (by decide) (by decide) (by decide) (by decide), and_nib _ _ _ _ _ (by omega) (by omega) (by omega) (by omega) 3 3 3 3 13107 (by decide) (by decide) (by decide) (by decide) (by decide), n4_3 n0 h0 _ (by omega), n4_3 n1 h1 _ (by omega), n4_3 n2 h2 _ (by omega), nI_add, add_nib]
theorem n4_5 : ∀ n, n < 16 → ((n - (n / 2 &&& 5)) &&& 3) + ((n - (n / 2 &&& 5)) / 4 &&& 3) = popL n 4 := by decide +kernel
theorem bc_s3 {k0 k1 k2 k3 : Nat} (l0 : k0 ≤ 4) (l1 : k1 ≤ 4) (l2 : k2 ≤ 4) (l3 : k3 ≤ 4) : bc3 (nI (k0 + 16 * (k1 + 16 * (k2 + 16 * k3)))) = nI ((k0 + k1) + 256 * (k2 + k3)) := by
  unfold bc3
  have e : (k0 + 16 * (k1 + 16 * (k2 + 16 * k3))) + (k0 + 16 * (k1 + 16 * (k2 + 16 * k3))) / 16 = (k0 + k1) + 16 * ((k1 + k2) + 16 * ((k2 + k3) + 16 * k3)) := by omega
  have q : ∀ n, n < 16 → n &&& 15 = n := by decide
  rw [show ((nI (k0 + 16 * (k1 + 16 * (k2 + 16 * k3)))).toUInt32 >>> ((4 : Int32).toUInt32 &&& Int32.toUInt32 31)).toInt32 = nI ((k0 + 16 * (k1 + 16 * (k2 + 16 * k3))) / 16) from nI_ushr (i := 4) (by decide) (by omega), show (252645135 : Int32) = nI 252645135 from rfl, nI_add, fa_and, e,
    and_nib _ _ _ _ _ (by omega) (by omega) (by omega) (by omega) 15 0 15 0 3855 (by decide) (by decide) (by decide) (by decide) (by decide), q _ (by omega), q _ (by omega), Nat.and_zero, Nat.and_zero]
  exact congrArg nI (by omega)
theorem bc_s4 {a b : Nat} (h : a ≤ 8) (h2 : b ≤ 8) : bc4 (nI (a + 256 * b)) = nI ((a + b) + 256 * b) := by
  unfold bc4
  rw [show ((nI (a + 256 * b)).toUInt32 >>> ((8 : Int32).toUInt32 &&& Int32.toUInt32 31)).toInt32 = nI ((a + 256 * b) / 256) from nI_ushr (i := 8) (by decide) (by omega), nI_add]
  exact congrArg nI (by omega)
theorem bc_s5 {x : Nat} (h : x < 65536) : bc5 (nI x) = nI x := by
  unfold bc5
  rw [show ((nI x).toUInt32 >>> ((16 : Int32).toUInt32 &&& Int32.toUInt32 31)).toInt32 = nI (x / 65536) from nI_ushr (i := 16) (by decide) (by omega), nI_add]
  exact congrArg nI (by omega)
theorem bc_eq {p : Nat} (h : p < 65536) : bcI (nI p) = nI (pop p) := by
  obtain ⟨n0, n1, n2, n3, h0, h1, h2, h3, rfl⟩ : ∃ n0 n1 n2 n3 : Nat, n0 < 16 ∧ n1 < 16 ∧ n2 < 16 ∧ n3 < 16 ∧ p = n0 + 16 * (n1 + 16 * (n2 + 16 * n3)) := ⟨p % 16, p / 16 % 16, p / 256 % 16, p / 4096, by omega, by omega, by omega, by omega, by omega⟩
  unfold bcI
  rw [bc_s1 h0 h1 h2 h3, bc_s2 (Nat.lt_of_le_of_lt (Nat.sub_le _ _) h0) (Nat.lt_of_le_of_lt (Nat.sub_le _ _) h1) (Nat.lt_of_le_of_lt (Nat.sub_le _ _) h2) (Nat.lt_of_le_of_lt (Nat.sub_le _ _) h3), n4_5 n0 h0, n4_5 n1 h1, n4_5 n2 h2, n4_5 n3 h3,
    bc_s3 (popL_le _ 4) (popL_le _ 4) (popL_le _ 4) (popL_le _ 4)]
  have l0 := popL_le n0 4
  have l1 := popL_le n1 4
  have l2 := popL_le n2 4
  have l3 := popL_le n3 4
  rw [bc_s4 (by omega) (by omega), bc_s5 (by omega), show (63 : Int32) = nI 63 from rfl, fa_and, show (63 : Nat) = 2 ^ 6 - 1 from rfl, Nat.and_two_pow_sub_one_eq_mod, pop_4 h0 h1 h2]
  exact congrArg nI (by omega)
end
section
/-! to begin, call, end a method; the worlds of the class and of the reference; what a lantern is -/
theorem xS {c d : Nat} {M : xM} {as : List Value} {ws : xH} {Post : xPost} (hM : xnth xMs c = some M) (hs : M.2.2.2.2.2.2 = true) (hp : (parseMethodDescriptor M.1.desc).map (fun q => q.parameters.length) = some as.length) (hl : Nat.ble (xsl as).length M.2.2.1 = true)
    (h : ∀ G : xK, xG1 M.2.2.2.2.1 G → xG2 M.2.2.2.2.1 M.2.2.2.1 Post G → xG3 xMs M.2.2.2.2.1 (xCt xMs d) G → G 0 (xent as M.2.2.1) [] ws) : xCt xMs (d + 1) c as ws Post :=
  ⟨M, hM, by rw [hs]; exact hp, hl, h⟩
theorem xV {c d a ci : Nat} {fs r : List Value} {q : vw_C} {M : xM} {ws : xH} {Post : xPost} (hM : xnth xMs c = some M) (hs : M.2.2.2.2.2.2 = false) (ha : xnth ws a = some (.inr (ci, fs))) (hq : vwCl[ci]? = some q) (hq2 : q.1 = M.1.cls) (hp : (parseMethodDescriptor M.1.desc).map (fun q => q.parameters.length) = some r.length) (hl : Nat.ble (xsl (.ref a :: r)).length M.2.2.1 = true)
    (h : ∀ G : xK, xG1 M.2.2.2.2.1 G → xG2 M.2.2.2.2.1 M.2.2.2.1 Post G → xG3 xMs M.2.2.2.2.1 (xCt xMs d) G → G 0 (xent (.ref a :: r) M.2.2.1) [] ws) : xCt xMs (d + 1) c (.ref a :: r) ws Post :=
  ⟨M, hM, by rw [hs]; exact ⟨a, ci, fs, r, q, rfl, ha, hq, hq2, hp⟩, hl, h⟩
/-- ends: an int, nothing, with a world -/
def xRet (r : Int32) (w0 : xH) : xPost := fun v w => v = some (.int r) ∧ w = w0
def xRetV (w0 : xH) : xPost := fun v w => v = none ∧ w = w0
def xRetL (r : Int64) (w0 : xH) : xPost := fun v w => v = some (.long r) ∧ w = w0
section XB
variable {tb : xT} {G : xK} {Cl : Nat → List Value → xH → xPost → Prop}
theorem xri {pc n : Nat} {an : List (Int32 × Nat)} {j : Int64} {loc : xL} {ws w0 : xH} {x r : Int32} (g2 : xG2 tb (some .int) (xRet r w0) G) (hi : xlk tb pc = some (.ireturn, n, an, j)) (hx : x = r) (hw : ws = w0) : G pc loc [.int x] ws := g2.1 _ _ _ _ _ _ _ hi (Or.inl rfl) ⟨by rw [hx], hw⟩
theorem xrz {pc n : Nat} {an : List (Int32 × Nat)} {j : Int64} {loc : xL} {ws w0 : xH} {x r : Int32} (g2 : xG2 tb (some .boolean) (xRet r w0) G) (hi : xlk tb pc = some (.ireturn, n, an, j)) (h01 : x = 0 ∨ x = 1) (hx : x = r) (hw : ws = w0) : G pc loc [.int x] ws := g2.1 _ _ _ _ _ _ _ hi (Or.inr ⟨rfl, h01⟩) ⟨by rw [hx], hw⟩
theorem xrv {pc n : Nat} {an : List (Int32 × Nat)} {j : Int64} {loc : xL} {ws w0 : xH} (g2 : xG2 tb none (xRetV w0) G) (hi : xlk tb pc = some (.return_, n, an, j)) (hw : ws = w0) : G pc loc [] ws := g2.2.2 _ _ _ _ _ _ hi rfl ⟨rfl, hw⟩
theorem xrl {pc n : Nat} {an : List (Int32 × Nat)} {j : Int64} {loc : xL} {ws w0 : xH} {x r : Int64} (g2 : xG2 tb (some .long) (xRetL r w0) G) (hi : xlk tb pc = some (.lreturn, n, an, j)) (hx : x = r) (hw : ws = w0) : G pc loc [.long x] ws := g2.2.1 _ _ _ _ _ _ _ hi rfl ⟨by rw [hx], hw⟩
/-- ends with any post -/
theorem xri' {Post : xPost} {pc n : Nat} {an : List (Int32 × Nat)} {j : Int64} {loc : xL} {ws : xH} {x : Int32} (g2 : xG2 tb (some .int) Post G) (hi : xlk tb pc = some (.ireturn, n, an, j)) (hp : Post (some (.int x)) ws) : G pc loc [.int x] ws := g2.1 _ _ _ _ _ _ _ hi (Or.inl rfl) hp
theorem xrz' {Post : xPost} {pc n : Nat} {an : List (Int32 × Nat)} {j : Int64} {loc : xL} {ws : xH} {x : Int32} (g2 : xG2 tb (some .boolean) Post G) (hi : xlk tb pc = some (.ireturn, n, an, j)) (h01 : x = 0 ∨ x = 1) (hp : Post (some (.int x)) ws) : G pc loc [.int x] ws := g2.1 _ _ _ _ _ _ _ hi (Or.inr ⟨rfl, h01⟩) hp
theorem xrv' {Post : xPost} {pc n : Nat} {an : List (Int32 × Nat)} {j : Int64} {loc : xL} {ws : xH} (g2 : xG2 tb none Post G) (hi : xlk tb pc = some (.return_, n, an, j)) (hp : Post none ws) : G pc loc [] ws := g2.2.2 _ _ _ _ _ _ hi rfl hp
theorem xcall {pc x n c : Nat} {M : xM} {v0 : Int32} {j : Int64} {loc : xL} {st rest : List Value} {ws : xH} {as : List Value} {wc : xH} {PC : xPost} (g3 : xG3 xMs tb Cl G) (pl : List Nat) (hC : Cl c as wc PC) (k : ∀ v wc', PC v wc' → wc'.length = wc.length → G (pc + 3) loc (v.toList ++ rest) (xput pl pl wc' ws)) (hM : xnth xMs c = some M := by rfl) (hi : xlk tb pc = some ((match M.2.2.2.2.2.2 with | true => .invokestatic x | false => .invokevirtual x), n, [(v0, c)], j) := by rfl)
    (hst : st = (as.map (xrV pl)).reverse ++ rest := by rfl) (hr : Nat.ble (xcat rest) 8 = true := by rfl) (hn : va_nd pl = true := by rfl) (hs : xsub pl wc ws := by rfl) : G pc loc st ws :=
  g3 pc x n c M v0 j loc st rest ws as pl wc PC hM hi hst hr hn hs hC k
theorem xput_same {pl : List Nat} {wc ws : xH} (hn : va_nd pl = true) (hs : xsub pl wc ws) : xput pl pl wc ws = ws := by
  apply List.ext_getElem?
  intro k
  rw [← xnth_eq, ← xnth_eq]
  by_cases hk : k ∈ pl
  · obtain ⟨j, hj⟩ := List.getElem?_of_mem hk
    have hl := (xsub_e hs).1
    have hjl : j < wc.length := by rw [← hl]; exact (List.getElem?_eq_some_iff.mp hj).1
    obtain ⟨p, h1, h2⟩ := (xsub_e hs).2 j wc[j] (by rw [xnth_eq]; exact List.getElem?_eq_getElem hjl)
    rw [hj] at h1
    cases h1
    rw [xput_in pl pl wc ws j k wc[j] hn hj (List.getElem?_eq_getElem hjl) (xnth_lt h2), h2]
  · exact xput_out pl pl wc ws k hk
/-- a call that changes nothing and answers an int -/
theorem xcallR {pc x n c : Nat} {M : xM} {v0 : Int32} {j : Int64} {loc : xL} {st rest : List Value} {ws : xH} {as : List Value} {wc : xH} {r : Int32} (g3 : xG3 xMs tb Cl G) (pl : List Nat) (hC : Cl c as wc (xRet r wc)) (k : G (pc + 3) loc (.int r :: rest) ws) (hM : xnth xMs c = some M := by rfl) (hi : xlk tb pc = some ((match M.2.2.2.2.2.2 with | true => .invokestatic x | false => .invokevirtual x), n, [(v0, c)], j) := by rfl)
    (hst : st = (as.map (xrV pl)).reverse ++ rest := by rfl) (hr : Nat.ble (xcat rest) 8 = true := by rfl) (hn : va_nd pl = true := by rfl) (hs : xsub pl wc ws := by rfl) : G pc loc st ws := by
  refine xcall g3 pl hC (fun v wc' hp _ => ?_) hM hi hst hr hn hs
  obtain ⟨rfl, rfl⟩ := hp
  rw [xput_same hn hs]
  exact k
/-- a call that makes another world of the callee's, and answers an int -/
theorem xcallW {pc x n c : Nat} {M : xM} {v0 : Int32} {j : Int64} {loc : xL} {st rest : List Value} {ws : xH} {as : List Value} {wc w1 : xH} {r : Int32} (g3 : xG3 xMs tb Cl G) (pl : List Nat) (hC : Cl c as wc (xRet r w1)) (k : G (pc + 3) loc (.int r :: rest) (xput pl pl w1 ws)) (hM : xnth xMs c = some M := by rfl) (hi : xlk tb pc = some ((match M.2.2.2.2.2.2 with | true => .invokestatic x | false => .invokevirtual x), n, [(v0, c)], j) := by rfl)
    (hst : st = (as.map (xrV pl)).reverse ++ rest := by rfl) (hr : Nat.ble (xcat rest) 8 = true := by rfl) (hn : va_nd pl = true := by rfl) (hs : xsub pl wc ws := by rfl) : G pc loc st ws := by
  refine xcall g3 pl hC (fun v wc' hp _ => ?_) hM hi hst hr hn hs
  obtain ⟨rfl, rfl⟩ := hp
  exact k
theorem xcallV {pc x n c : Nat} {M : xM} {v0 : Int32} {j : Int64} {loc : xL} {st rest : List Value} {ws : xH} {as : List Value} {wc w1 : xH} (g3 : xG3 xMs tb Cl G) (pl : List Nat) (hC : Cl c as wc (xRetV w1)) (k : G (pc + 3) loc rest (xput pl pl w1 ws)) (hM : xnth xMs c = some M := by rfl) (hi : xlk tb pc = some ((match M.2.2.2.2.2.2 with | true => .invokestatic x | false => .invokevirtual x), n, [(v0, c)], j) := by rfl)
    (hst : st = (as.map (xrV pl)).reverse ++ rest := by rfl) (hr : Nat.ble (xcat rest) 8 = true := by rfl) (hn : va_nd pl = true := by rfl) (hs : xsub pl wc ws := by rfl) : G pc loc st ws := by
  refine xcall g3 pl hC (fun v wc' hp _ => ?_) hM hi hst hr hn hs
  obtain ⟨rfl, rfl⟩ := hp
  exact k
end XB
theorem ag1 {d c : Nat} {ws : xH} {P : xPost} {x y : Int32} (e : x = y) (h : xCt xMs d c [.int y] ws P) : xCt xMs d c [.int x] ws P := e ▸ h
theorem ag2 {d c : Nat} {ws : xH} {P : xPost} {x y x2 y2 : Int32} (e : x = y) (e2 : x2 = y2) (h : xCt xMs d c [.int y, .int y2] ws P) : xCt xMs d c [.int x, .int x2] ws P := e ▸ e2 ▸ h
theorem agr1 {d c r : Nat} {ws : xH} {P : xPost} {x y : Int32} (e : x = y) (h : xCt xMs d c [.ref r, .int y] ws P) : xCt xMs d c [.ref r, .int x] ws P := e ▸ h
theorem agr2 {d c r : Nat} {ws : xH} {P : xPost} {x y x2 y2 : Int32} (e : x = y) (e2 : x2 = y2) (h : xCt xMs d c [.ref r, .int y, .int y2] ws P) : xCt xMs d c [.ref r, .int x, .int x2] ws P := e ▸ e2 ▸ h
theorem agr3 {d c r : Nat} {ws : xH} {P : xPost} {x y x2 y2 x3 y3 : Int32} (e : x = y) (e2 : x2 = y2) (e3 : x3 = y3) (h : xCt xMs d c [.ref r, .int y, .int y2, .int y3] ws P) : xCt xMs d c [.ref r, .int x, .int x2, .int x3] ws P := e ▸ e2 ▸ e3 ▸ h
theorem agr4 {d c r : Nat} {ws : xH} {P : xPost} {x y x2 y2 x3 y3 x4 y4 : Int32} (e : x = y) (e2 : x2 = y2) (e3 : x3 = y3) (e4 : x4 = y4) (h : xCt xMs d c [.ref r, .int y, .int y2, .int y3, .int y4] ws P) : xCt xMs d c [.ref r, .int x, .int x2, .int x3, .int x4] ws P := e ▸ e2 ▸ e3 ▸ e4 ▸ h
def bI (b : Bool) : Int32 := cond b 1 0
theorem bI_0 {b : Bool} : bI b = 0 ↔ b = false := by cases b <;> decide
theorem bI_01 (b : Bool) : bI b = 0 ∨ bI b = 1 := by cases b <;> decide
/-- rows and numbers that are put -/
def aU (a : Nat → Nat → Int32) (r : Nat) (f : Nat → Int32) : Nat → Nat → Int32 := fun j => cond (Nat.beq j r) f (a j)
def sU (s : Nat → Int32) (r : Nat) (v : Int32) : Nat → Int32 := fun j => cond (Nat.beq j r) v (s j)
/-- the class's lantern: rows 0 kinds, 1 figures, 2 painted, 3 prices, 4 uses, 5 wanted; numbers 0 slides, 1 wanted, 2 heat -/
def eL (a : Nat → Nat → Int32) (s : Nat → Int32) : xH := [.inr (0, [.ref 1, .ref 2, .ref 3, .ref 4, .ref 5, .ref 6, .int (s 0), .int (s 1), .int (s 2)]), .inl (8, a 0), .inl (8, a 1), .inl (8, a 2), .inl (8, a 3), .inl (8, a 4), .inl (6, a 5)]
/-- the reference: rows 0 .. 5 as above, 6 refused, 7 tape, 8 letter, 9 letterAt, 10 told, 11 kept, 12 cost, 13 shows, 14 asked, 15 row; numbers 0 .. 2 as above, 3 taped, 4 at, 5 statements, 6 hasImage, 7 isKeeping, 8 cursor, 9 .. 14 what findShown finds, 15 rowMany -/
def eM (a : Nat → Nat → Int32) (s : Nat → Int32) : xH := [.inr (5, [.ref 7, .ref 1, .ref 2, .ref 3, .ref 4, .ref 5, .ref 6, .int (s 0), .int (s 1), .int (s 2), .ref 8, .ref 9, .ref 10, .ref 11, .int (s 3), .int (s 4), .int (s 5), .ref 12, .int (s 6), .int (s 7), .int (s 8), .int (s 9), .int (s 10), .int (s 11), .int (s 12), .int (s 13), .int (s 14), .ref 13, .ref 14, .ref 15, .ref 16, .int (s 15)]),
  .inl (8, a 0), .inl (8, a 1), .inl (8, a 2), .inl (8, a 3), .inl (8, a 4), .inl (6, a 5), .inl (7, a 6), .inl (80, a 7), .inl (32, a 8), .inl (32, a 9), .inl (128, a 10), .inl (110, a 11), .inl (16384, a 12), .inl (256, a 13), .inl (6, a 14), .inl (12, a 15)]
/-- a lantern in numbers: rows 0 .. 5 as above, row 6: how many slides, how many wanted, heat -/
abbrev LQ : Type := Nat → Nat → Nat
def okS (q : LQ) : Prop := q 6 0 ≤ 8 ∧ q 6 1 ≤ 6 ∧ 1 ≤ q 6 2 ∧ q 6 2 ≤ 9 ∧ (∀ i, i < q 6 0 → q 0 i ≤ 5 ∧ q 1 i ≤ 9 ∧ q 2 i < 65536 ∧ q 3 i ≤ 99 ∧ q 4 i ≤ 99) ∧ ∀ i, i < q 6 1 → q 5 i < 65536
def relS (q : LQ) (a : Nat → Nat → Int32) (s : Nat → Int32) : Prop := okS q ∧ (∀ i, i < q 6 0 → a 0 i = nI (q 0 i) ∧ a 1 i = nI (q 1 i) ∧ a 2 i = nI (q 2 i) ∧ a 3 i = nI (q 3 i) ∧ a 4 i = nI (q 4 i)) ∧ (∀ i, i < q 6 1 → a 5 i = nI (q 5 i)) ∧ s 0 = nI (q 6 0) ∧ s 1 = nI (q 6 1) ∧ s 2 = nI (q 6 2)
def clr (p f : Nat) : Nat := p ^^^ (p &&& 2 ^ f)
def notN (p : Nat) : Nat := 65535 ^^^ (65535 &&& p)
def onQ (q : LQ) (i : Nat) : Nat := match q 0 i with
  | 1 => mirN (q 2 i)
  | 2 => flipN (mirN (q 2 i))
  | 3 => notN (q 2 i)
  | 4 => clr (q 2 i) (q 1 i)
  | 5 => shiftN (clr (q 2 i) (q 1 i)) (q 1 i % 4)
  | _ => q 2 i
def laidL (q : LQ) (set over : Nat) : Nat → Nat
  | 0 => 0
  | i + 1 => if set.testBit i then laidL q set over i ||| (if over.testBit i then mirN (onQ q i) else onQ q i) else laidL q set over i
def laidQ (q : LQ) (set over : Nat) : Nat := laidL q set over (q 6 0)
theorem notN_lt (p : Nat) : notN p < 65536 := Nat.xor_lt_two_pow (n := 16) (by decide) (Nat.lt_of_le_of_lt Nat.and_le_left (by decide))
theorem clr_lt {p f n : Nat} (h : p < 2 ^ n) : clr p f < 2 ^ n := Nat.xor_lt_two_pow h (Nat.lt_of_le_of_lt Nat.and_le_left h)
theorem clr_tb (p f i : Nat) : (clr p f).testBit i = (p.testBit i && !decide (f = i)) := by
  unfold clr
  rw [Nat.testBit_xor, Nat.testBit_and, Nat.testBit_two_pow]
  cases p.testBit i <;> cases h : decide (f = i) <;> rfl
theorem onQ_lt {q : LQ} (h : okS q) {i : Nat} (hi : i < q 6 0) : onQ q i < 65536 := by
  have h2 := (h.2.2.2.2.1 i hi).2.2.1
  unfold onQ
  split
  · exact mirN_lt _
  · exact flipN_lt _
  · exact notN_lt _
  · exact clr_lt (n := 16) h2
  · exact shiftN_lt _ _
  · exact h2
theorem laidL_lt {q : LQ} (h : okS q) (set over : Nat) : ∀ i, i ≤ q 6 0 → laidL q set over i < 65536
  | 0, _ => Nat.succ_pos _
  | i + 1, hi => by
    unfold laidL
    have ih := laidL_lt h set over i (by omega)
    split
    · refine Nat.or_lt_two_pow (n := 16) ih ?_
      split
      · exact mirN_lt _
      · exact onQ_lt h (by omega)
    · exact ih
theorem laidQ_lt {q : LQ} (h : okS q) (set over : Nat) : laidQ q set over < 65536 := laidL_lt h set over _ (Nat.le_refl _)
end
section
/-! the class's Cells, Integer.bitCount -/
theorem c_bitCount (d : Nat) (ws : xH) {p : Nat} (hp : p < 65536) : xCt xMs (d + 1) nJ6_bitCount_0f7a4 [.int (nI p)] ws (xRet (nI (pop p)) ws) := by
  refine xS (M := mJ6_bitCount_0f7a4) rfl rfl pJ6_bitCount_0f7a4 rfl (fun G g1 g2 g3 => ?_)
  refine xwp_go g1 [] 100 _ _ _ _ ?_
  exact xri g2 rfl (bc_eq hp) rfl
theorem c_mirrored (d : Nat) (ws : xH) {p : Nat} (hp : p < 65536) : xCt xMs (d + 1) nX0_mirrored [.int (nI p)] ws (xRet (nI (mirN p)) ws) := by
  refine xS (M := mX0_mirrored) rfl rfl pX0_mirrored rfl (fun G g1 g2 g3 => ?_)
  refine xwp_go g1 [] 100 _ _ _ _ ?_
  refine xri g2 rfl ?_ rfl
  have h2 : (p &&& 52428) < 65536 := Nat.lt_of_le_of_lt Nat.and_le_left hp
  have h1 : (p &&& 13107) < 16384 := Nat.lt_of_le_of_lt Nat.and_le_right (by decide)
  have e1 : ((nI p &&& 13107) <<< ((2 : Int32) &&& 31) ||| (nI p &&& 52428) >>> ((2 : Int32) &&& 31)) = nI ((p &&& 13107) * 4 ||| (p &&& 52428) / 4) := by
    rw [show (13107 : Int32) = nI 13107 from rfl, show (52428 : Int32) = nI 52428 from rfl, fa_and, fa_and, show nI (p &&& 13107) <<< ((2 : Int32) &&& 31) = nI ((p &&& 13107) * 4) from nI_shl (i := 2) (by decide) (by omega), show nI (p &&& 52428) >>> ((2 : Int32) &&& 31) = nI ((p &&& 52428) / 4) from nI_shr (i := 2) (by decide) (by omega), fa_or]
  rw [e1, ← mirC_eq hp]
  unfold mirC
  generalize (p &&& 13107) * 4 ||| (p &&& 52428) / 4 = y
  have h3 : (y &&& 21845) < 32768 := Nat.lt_of_le_of_lt Nat.and_le_right (by decide)
  have h4 : (y &&& 43690) < 65536 := Nat.lt_of_le_of_lt Nat.and_le_right (by decide)
  rw [show (21845 : Int32) = nI 21845 from rfl, show (43690 : Int32) = nI 43690 from rfl, fa_and, fa_and, show nI (y &&& 21845) <<< ((1 : Int32) &&& 31) = nI ((y &&& 21845) * 2) from nI_shl (i := 1) (by decide) (by omega), show nI (y &&& 43690) >>> ((1 : Int32) &&& 31) = nI ((y &&& 43690) / 2) from nI_shr (i := 1) (by decide) (by omega), fa_or]
theorem c_flipped (d : Nat) (ws : xH) {p : Nat} (hp : p < 65536) : xCt xMs (d + 1) nX0_flipped [.int (nI p)] ws (xRet (nI (flipN p)) ws) := by
  refine xS (M := mX0_flipped) rfl rfl pX0_flipped rfl (fun G g1 g2 g3 => ?_)
  refine xwp_go g1 [] 100 _ _ _ _ ?_
  refine xri g2 rfl ?_ rfl
  have h2 : (p &&& 65280) < 65536 := Nat.lt_of_le_of_lt Nat.and_le_left hp
  have h1 : (p &&& 255) < 256 := Nat.lt_of_le_of_lt Nat.and_le_right (by decide)
  have e1 : ((nI p &&& 255) <<< ((8 : Int32) &&& 31) ||| (nI p &&& 65280) >>> ((8 : Int32) &&& 31)) = nI ((p &&& 255) * 256 ||| (p &&& 65280) / 256) := by
    rw [show (255 : Int32) = nI 255 from rfl, show (65280 : Int32) = nI 65280 from rfl, fa_and, fa_and, show nI (p &&& 255) <<< ((8 : Int32) &&& 31) = nI ((p &&& 255) * 256) from nI_shl (i := 8) (by decide) (by omega), show nI (p &&& 65280) >>> ((8 : Int32) &&& 31) = nI ((p &&& 65280) / 256) from nI_shr (i := 8) (by decide) (by omega), fa_or]
  rw [e1, ← flipC_eq hp]
  unfold flipC
  generalize (p &&& 255) * 256 ||| (p &&& 65280) / 256 = y
  have h3 : (y &&& 3855) < 4096 := Nat.lt_of_le_of_lt Nat.and_le_right (by decide)
  have h4 : (y &&& 61680) < 65536 := Nat.lt_of_le_of_lt Nat.and_le_right (by decide)
  rw [show (3855 : Int32) = nI 3855 from rfl, show (61680 : Int32) = nI 61680 from rfl, fa_and, fa_and, show nI (y &&& 3855) <<< ((4 : Int32) &&& 31) = nI ((y &&& 3855) * 16) from nI_shl (i := 4) (by decide) (by omega), show nI (y &&& 61680) >>> ((4 : Int32) &&& 31) = nI ((y &&& 61680) / 16) from nI_shr (i := 4) (by decide) (by omega), fa_or]
theorem shI {p : Nat} (hp : p < 65536) : (nI p &&& (-34953)) <<< ((1 : Int32) &&& 31) ||| (nI p &&& 34952) >>> ((3 : Int32) &&& 31) = nI (shC p) := by
  have h1 : (p &&& 4294932343) < 65536 := Nat.lt_of_le_of_lt Nat.and_le_left hp
  have h2 : (p &&& 34952) < 65536 := Nat.lt_of_le_of_lt Nat.and_le_left hp
  unfold shC
  rw [show ((-34953) : Int32) = nI 4294932343 from by decide, show (34952 : Int32) = nI 34952 from rfl, fa_and, fa_and, show nI (p &&& 4294932343) <<< ((1 : Int32) &&& 31) = nI ((p &&& 4294932343) * 2) from nI_shl (i := 1) (by decide) (by omega), show nI (p &&& 34952) >>> ((3 : Int32) &&& 31) = nI ((p &&& 34952) / 8) from nI_shr (i := 3) (by decide) (by omega), fa_or]
theorem c_shifted (d : Nat) (ws : xH) {p k : Nat} (hp : p < 65536) (hk : k < 4) : xCt xMs (d + 1) nX0_shifted [.int (nI p), .int (nI k)] ws (xRet (nI (shiftN p k)) ws) := by
  refine xS (M := mX0_shifted) rfl rfl pX0_shifted rfl (fun G g1 g2 g3 => ?_)
  have loop : ∀ n i x y, i + n = k → x = nI i → y = nI (shiftN p i) → G 4 [some (.int (nI p)), some (.int (nI k)), some (.int y), some (.int x)] [] ws := by
    intro n
    induction n with
    | zero =>
      intro i x y hi hx hy
      refine xwp_go g1 [4] 100 _ _ _ _ ?_
      refine And.intro (fun h => ?_) (fun h => ?_)
      · exact xri g2 rfl (by rw [hy, show i = k by omega]) rfl
      · exact absurd (by rw [hx]; exact nI_le (by omega) (by omega)) h
    | succ n ih =>
      intro i x y hi hx hy
      refine xwp_go g1 [4] 100 _ _ _ _ ?_
      refine And.intro (fun h => ?_) (fun h => ?_)
      · rw [hx] at h
        exact absurd h (nI_ge (by omega) (by omega))
      · refine ih (i + 1) _ _ (by omega) (by rw [hx]; exact nI_1 i) ?_
        rw [hy, shI (shiftN_lt _ _), shC_eq hp (by omega)]
  refine xwp_go g1 [4] 100 _ _ _ _ ?_
  exact loop k 0 _ _ (by omega) rfl (by rw [shiftN_0 hp])
end
section
/-! what both the class and the reference do, in numbers -/
theorem up {P : Nat → Prop} {k : Nat} (hk : P k) (hs : ∀ i, i < k → P (i + 1) → P i) : ∀ i, i ≤ k → P i := by
  intro i hi
  have key : ∀ n i, i + n = k → P i := by
    intro n
    induction n with
    | zero => intro i h; rw [show i = k by omega]; exact hk
    | succ n ih => intro i h; exact hs i (by omega) (ih (i + 1) (by omega))
  exact key (k - i) i (by omega)
def hasB (n : Nat) (x : Int32) : Bool := decide (0 ≤ x ∧ x < nI n)
theorem hasB_of {n : Nat} {x : Int32} (hn : n < 2 ^ 31) (h : hasB n x = true) : ∃ i, i < n ∧ x = nI i := by
  obtain ⟨h1, h2⟩ := of_decide_eq_true h
  obtain ⟨j, hj, rfl⟩ := nI_of (x := x) (fun q => by rw [fa_lt] at q; rw [fa_le] at h1; omega)
  exact ⟨j, (nI_ltI hj hn).mp h2, rfl⟩
theorem hasB_in {n i : Nat} (hn : n < 2 ^ 31) (h : i < n) : hasB n (nI i) = true := decide_eq_true ⟨nI_pos' (by omega), nI_lt h hn⟩
theorem hasB_n1 {n : Nat} {x : Int32} (h : x < 0) : hasB n x = false := decide_eq_false (fun q => by
  have := q.1
  rw [fa_le] at this
  rw [fa_lt] at h
  omega)
theorem hasB_n2 {n : Nat} {x : Int32} (h : nI n ≤ x) : hasB n x = false := decide_eq_false (fun q => by
  have := q.2
  rw [fa_lt] at this
  rw [fa_le] at h
  omega)
theorem hasB_y {n : Nat} {x : Int32} (h1 : ¬ x < 0) (h2 : ¬ nI n ≤ x) : hasB n x = true := decide_eq_true (by
  rw [fa_le, fa_lt]
  rw [fa_lt] at h1
  rw [fa_le] at h2
  omega)
def setB (n : Nat) (x : Int32) : Bool := decide (x.toBitVec.toNat < 2 ^ n)
theorem nI_back (x : Int32) : x = nI x.toBitVec.toNat := Int32.toBitVec_inj.mp (by simp [nI])
theorem setB_of {n : Nat} {x : Int32} (h : setB n x = true) : ∃ m, m < 2 ^ n ∧ x = nI m := ⟨_, of_decide_eq_true h, nI_back x⟩
theorem setB_in {n m : Nat} (hn : n < 32) (h : m < 2 ^ n) : setB n (nI m) = true := by
  have : 2 ^ n < 2 ^ 32 := Nat.pow_lt_pow_right (by decide) hn
  exact decide_eq_true (by rw [pk_tn (by omega)]; exact h)
theorem set_c {n : Nat} (hn : n ≤ 8) (x : Int32) : (x.toUInt32 >>> ((nI n).toUInt32 &&& Int32.toUInt32 31)).toInt32 = 0 ↔ setB n x = true := by
  have h := pk_ushr x (nI n) n (s_u n (by omega))
  rw [← Int32.toBitVec_inj]
  unfold setB
  rw [decide_eq_true_eq]
  constructor
  · intro e
    rw [e] at h
    have h2 : (0 : Int32).toBitVec.toNat = 0 := by decide
    rw [h2] at h
    rcases Nat.lt_or_ge x.toBitVec.toNat (2 ^ n) with q | q
    · exact q
    · have := Nat.div_pos q (Nat.two_pow_pos n)
      omega
  · intro e
    rw [Nat.div_eq_of_lt e] at h
    apply BitVec.eq_of_toNat_eq
    rw [h]; decide
theorem set_m {n : Nat} (hn : n ≤ 8) {x : Int32} (hx : ¬ x < 0) : x >>> (nI n &&& 31) = 0 ↔ setB n x = true := by
  obtain ⟨j, hj, rfl⟩ := nI_of hx
  rw [nI_shr (by omega) hj]
  unfold setB
  rw [decide_eq_true_eq, pk_tn (by omega), show (0 : Int32) = nI 0 from rfl, nI_eq (Nat.lt_of_le_of_lt (Nat.div_le_self _ _) hj) (by decide)]
  constructor
  · intro e
    rcases Nat.lt_or_ge j (2 ^ n) with q | q
    · exact q
    · have := Nat.div_pos q (Nat.two_pow_pos n)
      omega
  · exact Nat.div_eq_of_lt
theorem set_n {n : Nat} (hn : n ≤ 8) {x : Int32} (hx : x < 0) : setB n x = false := by
  cases h : setB n x with
  | false => rfl
  | true =>
    obtain ⟨m, hm, rfl⟩ := setB_of h
    have : 2 ^ n ≤ 2 ^ 8 := Nat.pow_le_pow_right (by decide) hn
    exact absurd hx (nI_pos (by omega))
def wishB (q : LQ) (p : Nat) : Bool := (List.range (q 6 1)).any (fun i => q 5 i == p)
theorem wishB_y {q : LQ} {p i : Nat} (hi : i < q 6 1) (h : q 5 i = p) : wishB q p = true := List.any_eq_true.mpr ⟨i, List.mem_range.mpr hi, by simp [h]⟩
theorem wishB_n {q : LQ} {p : Nat} (h : ∀ i, i < q 6 1 → q 5 i ≠ p) : wishB q p = false := by
  cases hb : wishB q p with
  | false => rfl
  | true =>
    obtain ⟨i, h1, h2⟩ := List.any_eq_true.mp hb
    exact absurd (by simpa using h2) (h i (List.mem_range.mp h1))
def toldQ (q : LQ) (i w : Nat) : Nat := match w with
  | 0 => q 0 i
  | 1 => q 1 i
  | 2 => q 2 i
  | 3 => onQ q i
  | 4 => q 3 i
  | _ => q 4 i
/-- a slide wears -/
def useN (u : Nat) : Nat := if u < 99 then u + 1 else 99
def wearQ (q : LQ) (i : Nat) : LQ := fun r j => if j = i then (if r = 4 then useN (q 4 i) else if r = 2 then (if useN (q 4 i) % q 6 2 = 0 then clr (q 2 i) (useN (q 4 i) % 16) else q 2 i) else q r j) else q r j
def projL (q : LQ) (set : Nat) : Nat → LQ
  | 0 => q
  | i + 1 => if set.testBit i then wearQ (projL q set i) i else projL q set i
def projQ (q : LQ) (set : Nat) : LQ := projL q set (q 6 0)
theorem wearQ_6 (q : LQ) (i j : Nat) : wearQ q i 6 j = q 6 j := by
  unfold wearQ
  by_cases h : j = i <;> simp [h]
theorem projL_6 (q : LQ) (set : Nat) : ∀ i j, projL q set i 6 j = q 6 j
  | 0, _ => rfl
  | i + 1, j => by
    unfold projL
    split
    · rw [wearQ_6, projL_6 q set i]
    · exact projL_6 q set i j
theorem useN_le (u : Nat) : useN u ≤ 99 := by unfold useN; split <;> omega
theorem wearQ_ok {q : LQ} (h : okS q) {i : Nat} (hi : i < q 6 0) : okS (wearQ q i) := by
  obtain ⟨h1, h2, h3, h4, h5, h6⟩ := h
  refine ⟨by rw [wearQ_6]; exact h1, by rw [wearQ_6]; exact h2, by rw [wearQ_6]; exact h3, by rw [wearQ_6]; exact h4, fun j hj => ?_, fun j hj => ?_⟩
  · rw [wearQ_6] at hj
    obtain ⟨g0, g1, g2, g3, g4⟩ := h5 j hj
    unfold wearQ
    by_cases e : j = i
    · subst e
      refine ⟨by simpa using g0, by simpa using g1, ?_, by simpa using g3, by simpa using useN_le _⟩
      simp only [if_true, show ((2 : Nat) = 4) = False by simp, if_false]
      split
      · exact clr_lt (n := 16) g2
      · exact g2
    · simp only [e, if_false]
      exact ⟨g0, g1, g2, g3, g4⟩
  · rw [wearQ_6] at hj
    have := h6 j hj
    unfold wearQ
    by_cases e : j = i <;> simp [e] <;> first | exact this | (subst e; exact this)
theorem okS_cong {q q' : LQ} (h : ∀ r j, q r j = q' r j) (hq : okS q) : okS q' := by
  have : q = q' := funext (fun r => funext (fun j => h r j))
  rw [← this]; exact hq
/-- the rows of a lantern in which slide i wears, u and p its new numbers -/
def wearA (a : Nat → Nat → Int32) (i : Nat) (u p : Int32) : Nat → Nat → Int32 := aU (aU a 4 (upd (a 4) i u)) 2 (upd (a 2) i p)
theorem rel_wear {q : LQ} {a a' : Nat → Nat → Int32} {s : Nat → Int32} (h : relS q a s) {i : Nat} (hi : i < q 6 0) (h0 : a' 0 = a 0) (h1 : a' 1 = a 1) (h3 : a' 3 = a 3) (h5 : a' 5 = a 5) (h4 : ∀ j, a' 4 j = if j = i then nI (useN (q 4 i)) else a 4 j)
    (h2 : ∀ j, a' 2 j = if j = i then nI (if useN (q 4 i) % q 6 2 = 0 then clr (q 2 i) (useN (q 4 i) % 16) else q 2 i) else a 2 j) : relS (wearQ q i) a' s := by
  obtain ⟨hok, hA, hW, g0, g1, g2⟩ := h
  refine ⟨wearQ_ok hok hi, fun j hj => ?_, fun j hj => ?_, by rw [wearQ_6]; exact g0, by rw [wearQ_6]; exact g1, by rw [wearQ_6]; exact g2⟩
  · rw [wearQ_6] at hj
    obtain ⟨k0, k1, k2, k3, k4⟩ := hA j hj
    rw [h0, h1, h3, h4 j, h2 j]
    unfold wearQ
    by_cases e : j = i
    · subst e
      simp only [if_true]
      refine ⟨k0, k1, ?_, k3, trivial⟩
      simp
    · simp only [e, if_false]
      exact ⟨k0, k1, k2, k3, k4⟩
  · rw [wearQ_6] at hj
    rw [h5, hW j hj]
    unfold wearQ
    by_cases e : j = i <;> simp [e]
/-- uses, prices of all -/
def sumQ (q : LQ) (r : Nat) : Nat → Nat
  | 0 => 0
  | i + 1 => sumQ q r i + q r i
/-- the nearest wanted picture: with i looked at, (which + 1, or 0; how many unlike) -/
def nearL (q : LQ) (p : Nat) : Nat → Nat × Nat
  | 0 => (0, 17)
  | i + 1 => if pop (q 5 i ^^^ p) < (nearL q p i).2 then (i + 1, pop (q 5 i ^^^ p)) else nearL q p i
/-- how many dark cells of a slide, each clear alone, would make the set show the picture -/
def crackL (others on p : Nat) : Nat → Nat
  | 0 => 0
  | c + 1 => crackL others on p c + (if on.testBit c ∧ others ||| clr on c = p then 1 else 0)
theorem on_1 {q : LQ} {i : Nat} (h : q 0 i = 1) : onQ q i = mirN (q 2 i) := by unfold onQ; rw [h]; rfl
theorem on_2 {q : LQ} {i : Nat} (h : q 0 i = 2) : onQ q i = flipN (mirN (q 2 i)) := by unfold onQ; rw [h]; rfl
theorem on_3 {q : LQ} {i : Nat} (h : q 0 i = 3) : onQ q i = notN (q 2 i) := by unfold onQ; rw [h]; rfl
theorem on_4 {q : LQ} {i : Nat} (h : q 0 i = 4) : onQ q i = clr (q 2 i) (q 1 i) := by unfold onQ; rw [h]; rfl
theorem on_5 {q : LQ} {i : Nat} (h : q 0 i = 5) : onQ q i = shiftN (clr (q 2 i) (q 1 i)) (q 1 i % 4) := by unfold onQ; rw [h]; rfl
theorem on_0 {q : LQ} {i : Nat} (h : q 0 i = 0) : onQ q i = q 2 i := by unfold onQ; rw [h]; rfl
theorem laidL_s {q : LQ} {set over i : Nat} (h : set.testBit i = true) : laidL q set over (i + 1) = laidL q set over i ||| (if over.testBit i then mirN (onQ q i) else onQ q i) := by
  show (if set.testBit i then _ else _) = _
  rw [if_pos h]
theorem laidL_n {q : LQ} {set over i : Nat} (h : set.testBit i = false) : laidL q set over (i + 1) = laidL q set over i := by
  show (if set.testBit i then _ else _) = _
  rw [if_neg (by rw [h]; decide)]
theorem projL_s {q : LQ} {set i : Nat} (h : set.testBit i = true) : projL q set (i + 1) = wearQ (projL q set i) i := by
  show (if set.testBit i then _ else _) = _
  rw [if_pos h]
theorem projL_n {q : LQ} {set i : Nat} (h : set.testBit i = false) : projL q set (i + 1) = projL q set i := by
  show (if set.testBit i then _ else _) = _
  rw [if_neg (by rw [h]; decide)]
def whI (k : Nat) : Int32 := if k = 0 then -1 else nI (k - 1)
theorem nearL_le (q : LQ) (p : Nat) : ∀ i, (nearL q p i).2 ≤ 17 ∧ (nearL q p i).1 ≤ i
  | 0 => ⟨Nat.le_refl _, Nat.le_refl _⟩
  | i + 1 => by
    have := nearL_le q p i
    show (if pop (q 5 i ^^^ p) < (nearL q p i).2 then (i + 1, pop (q 5 i ^^^ p)) else nearL q p i).2 ≤ 17 ∧ (if pop (q 5 i ^^^ p) < (nearL q p i).2 then (i + 1, pop (q 5 i ^^^ p)) else nearL q p i).1 ≤ i + 1
    split
    · exact ⟨by have := pop_le (q 5 i ^^^ p); omega, Nat.le_refl _⟩
    · exact ⟨this.1, by omega⟩
theorem sumQ_le {q : LQ} {r b : Nat} : ∀ {n : Nat}, (∀ i, i < n → q r i ≤ b) → sumQ q r n ≤ n * b
  | 0, _ => by simp [sumQ]
  | n + 1, h => by
    have := sumQ_le (fun i hi => h i (by omega) : ∀ i, i < n → q r i ≤ b)
    have h2 := h n (by omega)
    show sumQ q r n + q r n ≤ (n + 1) * b
    rw [Nat.succ_mul]
    omega
/-- a slide more, a wanted picture more, another heat, another price -/
def addQ (q : LQ) (k f r p : Nat) : LQ := fun row j => if row = 6 then (if j = 0 then q 6 0 + 1 else q 6 j) else if j = q 6 0 then (match row with
  | 0 => k
  | 1 => f
  | 2 => p
  | 3 => r
  | 4 => 0
  | _ => q row j) else q row j
def wantQ (q : LQ) (p : Nat) : LQ := fun row j => if row = 6 then (if j = 1 then q 6 1 + 1 else q 6 j) else if row = 5 ∧ j = q 6 1 then p else q row j
def heatQ (q : LQ) (h : Nat) : LQ := fun row j => if row = 6 ∧ j = 2 then h else q row j
def priceQ (q : LQ) (i v : Nat) : LQ := fun row j => if row = 3 ∧ j = i then v else q row j
theorem rel_add {q : LQ} {a a' : Nat → Nat → Int32} {s s' : Nat → Int32} (h : relS q a s) {k f r p : Nat} (hn : q 6 0 < 8) (hk : k ≤ 5) (hf : f ≤ 9) (hr : r ≤ 99) (hp : p < 65536) (h5 : a' 5 = a 5)
    (e0 : ∀ j, a' 0 j = if j = q 6 0 then nI k else a 0 j) (e1 : ∀ j, a' 1 j = if j = q 6 0 then nI f else a 1 j) (e2 : ∀ j, a' 2 j = if j = q 6 0 then nI p else a 2 j) (e3 : ∀ j, a' 3 j = if j = q 6 0 then nI r else a 3 j) (e4 : ∀ j, a' 4 j = if j = q 6 0 then nI 0 else a 4 j)
    (s0 : s' 0 = nI (q 6 0 + 1)) (s1 : s' 1 = s 1) (s2 : s' 2 = s 2) : relS (addQ q k f r p) a' s' := by
  obtain ⟨⟨o1, o2, o3, o4, o5, o6⟩, hA, hW, g0, g1, g2⟩ := h
  have q60 : addQ q k f r p 6 0 = q 6 0 + 1 := rfl
  have q61 : addQ q k f r p 6 1 = q 6 1 := rfl
  have q62 : addQ q k f r p 6 2 = q 6 2 := rfl
  refine ⟨⟨by rw [q60]; omega, by rw [q61]; exact o2, by rw [q62]; exact o3, by rw [q62]; exact o4, fun j hj => ?_, fun j hj => ?_⟩, fun j hj => ?_, fun j hj => ?_, by rw [q60]; exact s0, by rw [q61, s1]; exact g1, by rw [q62, s2]; exact g2⟩
  · rw [q60] at hj
    unfold addQ
    by_cases e : j = q 6 0
    · simp [e, hk, hf, hr, hp]
    · have := o5 j (by omega)
      simpa [e] using this
  · rw [q61] at hj
    unfold addQ
    have := o6 j hj
    simp only [show ((5 : Nat) = 6) = False by simp, if_false]
    split <;> exact this
  · rw [q60] at hj
    rw [e0, e1, e2, e3, e4]
    unfold addQ
    by_cases e : j = q 6 0
    · simp [e]
    · have := hA j (by omega)
      simpa [e] using this
  · rw [q61] at hj
    rw [h5, hW j hj]
    unfold addQ
    simp only [show ((5 : Nat) = 6) = False by simp, if_false]
    split <;> rfl
theorem rel_want {q : LQ} {a a' : Nat → Nat → Int32} {s s' : Nat → Int32} (h : relS q a s) {p : Nat} (hn : q 6 1 < 6) (hp : p < 65536) (h0 : a' 0 = a 0) (h1 : a' 1 = a 1) (h2 : a' 2 = a 2) (h3 : a' 3 = a 3) (h4 : a' 4 = a 4)
    (e5 : ∀ j, a' 5 j = if j = q 6 1 then nI p else a 5 j) (s0 : s' 0 = s 0) (s1 : s' 1 = nI (q 6 1 + 1)) (s2 : s' 2 = s 2) : relS (wantQ q p) a' s' := by
  obtain ⟨⟨o1, o2, o3, o4, o5, o6⟩, hA, hW, g0, g1, g2⟩ := h
  have q60 : wantQ q p 6 0 = q 6 0 := rfl
  have q61 : wantQ q p 6 1 = q 6 1 + 1 := rfl
  have q62 : wantQ q p 6 2 = q 6 2 := rfl
  refine ⟨⟨by rw [q60]; exact o1, by rw [q61]; omega, by rw [q62]; exact o3, by rw [q62]; exact o4, fun j hj => ?_, fun j hj => ?_⟩, fun j hj => ?_, fun j hj => ?_, by rw [q60, s0]; exact g0, by rw [q61]; exact s1, by rw [q62, s2]; exact g2⟩
  · rw [q60] at hj
    have := o5 j hj
    simpa [wantQ] using this
  · rw [q61] at hj
    unfold wantQ
    by_cases e : j = q 6 1
    · simpa [e] using hp
    · have := o6 j (by omega)
      simpa [e] using this
  · rw [q60] at hj
    rw [h0, h1, h2, h3, h4]
    have := hA j hj
    simpa [wantQ] using this
  · rw [q61] at hj
    rw [e5]
    unfold wantQ
    by_cases e : j = q 6 1
    · simp [e]
    · have := hW j (by omega)
      simpa [e] using this
theorem rel_heat {q : LQ} {a : Nat → Nat → Int32} {s s' : Nat → Int32} (h : relS q a s) {v : Nat} (h1 : 1 ≤ v) (h9 : v ≤ 9) (s0 : s' 0 = s 0) (s1 : s' 1 = s 1) (s2 : s' 2 = nI v) : relS (heatQ q v) a s' := by
  obtain ⟨⟨o1, o2, o3, o4, o5, o6⟩, hA, hW, g0, g1, g2⟩ := h
  have q60 : heatQ q v 6 0 = q 6 0 := rfl
  have q61 : heatQ q v 6 1 = q 6 1 := rfl
  have q62 : heatQ q v 6 2 = v := rfl
  refine ⟨⟨by rw [q60]; exact o1, by rw [q61]; exact o2, by rw [q62]; exact h1, by rw [q62]; exact h9, fun j hj => ?_, fun j hj => ?_⟩, fun j hj => ?_, fun j hj => ?_, by rw [q60, s0]; exact g0, by rw [q61, s1]; exact g1, by rw [q62]; exact s2⟩
  · exact o5 j hj
  · exact o6 j hj
  · exact hA j hj
  · exact hW j hj
theorem rel_price {q : LQ} {a a' : Nat → Nat → Int32} {s : Nat → Int32} (h : relS q a s) {i v : Nat} (hi : i < q 6 0) (hv : v ≤ 99) (h0 : a' 0 = a 0) (h1 : a' 1 = a 1) (h2 : a' 2 = a 2) (h4 : a' 4 = a 4) (h5 : a' 5 = a 5) (e3 : ∀ j, a' 3 j = if j = i then nI v else a 3 j) : relS (priceQ q i v) a' s := by
  obtain ⟨⟨o1, o2, o3, o4, o5, o6⟩, hA, hW, g0, g1, g2⟩ := h
  have q6 : ∀ j, priceQ q i v 6 j = q 6 j := fun _ => rfl
  refine ⟨⟨by rw [q6]; exact o1, by rw [q6]; exact o2, by rw [q6]; exact o3, by rw [q6]; exact o4, fun j hj => ?_, fun j hj => ?_⟩, fun j hj => ?_, fun j hj => ?_, by rw [q6]; exact g0, by rw [q6]; exact g1, by rw [q6]; exact g2⟩
  · rw [q6] at hj
    have := o5 j hj
    unfold priceQ
    by_cases e : j = i
    · simp [e] at this ⊢
      exact ⟨this.1, this.2.1, this.2.2.1, hv, this.2.2.2.2⟩
    · simpa [e] using this
  · exact o6 j hj
  · rw [q6] at hj
    rw [h0, h1, h2, h4, e3]
    have := hA j hj
    unfold priceQ
    by_cases e : j = i
    · simp [e] at this ⊢
      exact ⟨this.1, this.2.1, this.2.2.1, this.2.2.2.2⟩
    · simpa [e] using this
  · rw [h5]
    exact hW j hj
end
section
/-! the class's Lantern -/
theorem c_has (d : Nat) {q : LQ} {a : Nat → Nat → Int32} {s : Nat → Int32} (hr : relS q a s) (x : Int32) : xCt xMs (d + 1) nX1_has [.ref 0, .int x] (eL a s) (xRet (bI (hasB (q 6 0) x)) (eL a s)) := by
  obtain ⟨hok, hA, hW, h0, h1, h2⟩ := hr
  refine xV (M := mX1_has) rfl rfl rfl rfl rfl pX1_has rfl (fun G g1 g2 g3 => ?_)
  refine xwp_go g1 [] 100 _ _ _ _ ?_
  refine And.intro (fun h => ?_) (fun h => ?_)
  · exact xrz (G := G) g2 rfl (Or.inl rfl) (by rw [hasB_n1 h]; rfl) rfl
  · refine And.intro (fun h' => ?_) (fun h' => ?_)
    · rw [h0] at h'
      exact xrz (G := G) g2 rfl (Or.inl rfl) (by rw [hasB_n2 h']; rfl) rfl
    · rw [h0] at h'
      exact xrz (G := G) g2 rfl (Or.inr rfl) (by rw [hasB_y h h']; rfl) rfl
theorem c_hasWanted (d : Nat) {q : LQ} {a : Nat → Nat → Int32} {s : Nat → Int32} (hr : relS q a s) (x : Int32) : xCt xMs (d + 1) nX1_hasWanted [.ref 0, .int x] (eL a s) (xRet (bI (hasB (q 6 1) x)) (eL a s)) := by
  obtain ⟨hok, hA, hW, h0, h1, h2⟩ := hr
  refine xV (M := mX1_hasWanted) rfl rfl rfl rfl rfl pX1_hasWanted rfl (fun G g1 g2 g3 => ?_)
  refine xwp_go g1 [] 100 _ _ _ _ ?_
  refine And.intro (fun h => ?_) (fun h => ?_)
  · exact xrz (G := G) g2 rfl (Or.inl rfl) (by rw [hasB_n1 h]; rfl) rfl
  · refine And.intro (fun h' => ?_) (fun h' => ?_)
    · rw [h1] at h'
      exact xrz (G := G) g2 rfl (Or.inl rfl) (by rw [hasB_n2 h']; rfl) rfl
    · rw [h1] at h'
      exact xrz (G := G) g2 rfl (Or.inr rfl) (by rw [hasB_y h h']; rfl) rfl
theorem c_hasAll (d : Nat) {q : LQ} {a : Nat → Nat → Int32} {s : Nat → Int32} (hr : relS q a s) (x : Int32) : xCt xMs (d + 1) nX1_hasAll [.ref 0, .int x] (eL a s) (xRet (bI (setB (q 6 0) x)) (eL a s)) := by
  obtain ⟨hok, hA, hW, h0, h1, h2⟩ := hr
  refine xV (M := mX1_hasAll) rfl rfl rfl rfl rfl pX1_hasAll rfl (fun G g1 g2 g3 => ?_)
  refine xwp_go g1 [] 100 _ _ _ _ ?_
  refine And.intro (fun h => ?_) (fun h => ?_)
  · rw [h0, set_c hok.1] at h
    exact xrz (G := G) g2 rfl (Or.inl rfl) (by rw [Bool.eq_false_iff.mpr h]; rfl) rfl
  · rw [h0, set_c hok.1] at h
    exact xrz (G := G) g2 rfl (Or.inr rfl) (by rw [h]; rfl) rfl
theorem lt256 {q : LQ} (h : okS q) : 2 ^ q 6 0 ≤ 256 := Nat.pow_le_pow_right (n := 2) (by decide) h.1
def showB (n : Nat) (x : Int32) : Bool := setB n x && (!decide (x = 0) && decide (pop x.toBitVec.toNat ≤ 4))
theorem c_isProjectable (d : Nat) {q : LQ} {a : Nat → Nat → Int32} {s : Nat → Int32} (hr : relS q a s) (x : Int32) : xCt xMs (d + 2) nX1_isProjectable [.ref 0, .int x] (eL a s) (xRet (bI (showB (q 6 0) x)) (eL a s)) := by
  refine xV (M := mX1_isProjectable) rfl rfl rfl rfl rfl pX1_isProjectable rfl (fun G g1 g2 g3 => ?_)
  refine xwp_go g1 [] 100 _ _ _ _ ?_
  refine xcallR (G := G) g3 [0, 1, 2, 3, 4, 5, 6] (c_hasAll d hr x) ?_
  refine xwp_go g1 [] 100 _ _ _ _ ?_
  refine And.intro (fun h => ?_) (fun h => ?_)
  · rw [bI_0] at h
    exact xrz (G := G) g2 rfl (Or.inl rfl) (by unfold showB; rw [h]; rfl) rfl
  · rw [bI_0, Bool.not_eq_false] at h
    refine And.intro (fun h' => ?_) (fun h' => ?_)
    · exact xrz (G := G) g2 rfl (Or.inl rfl) (by unfold showB; rw [h']; simp [bI]) rfl
    · obtain ⟨m, hm, rfl⟩ := setB_of h
      have := lt256 hr.1
      refine xcallR (G := G) g3 [] (c_bitCount d [] (p := m) (by omega)) ?_
      refine xwp_go g1 [] 100 _ _ _ _ ?_
      have hp := pop_le m
      refine And.intro (fun h'' => ?_) (fun h'' => ?_)
      · rw [show (4 : Int32) = nI 4 from rfl, nI_ltI (by decide) (by omega)] at h''
        refine xrz (G := G) g2 rfl (Or.inl rfl) ?_ rfl
        unfold showB
        rw [pk_tn (by omega), decide_eq_false (by omega : ¬ pop m ≤ 4)]
        simp [bI]
      · rw [show (4 : Int32) = nI 4 from rfl, nI_ltI (by decide) (by omega)] at h''
        refine xrz (G := G) g2 rfl (Or.inr rfl) ?_ rfl
        unfold showB
        rw [pk_tn (by omega), decide_eq_true (by omega : pop m ≤ 4), h, decide_eq_false h']
        rfl
theorem c_isWanted (d : Nat) {q : LQ} {a : Nat → Nat → Int32} {s : Nat → Int32} (hr : relS q a s) {p : Nat} (hp : p < 65536) : xCt xMs (d + 1) nX1_isWanted [.ref 0, .int (nI p)] (eL a s) (xRet (bI (wishB q p)) (eL a s)) := by
  obtain ⟨hok, hA, hW, h0, h1, h2⟩ := hr
  have h6 := hok.2.1
  refine xV (M := mX1_isWanted) rfl rfl rfl rfl rfl pX1_isWanted rfl (fun G g1 g2 g3 => ?_)
  refine xwp_go g1 [2] 100 _ _ _ _ ?_
  refine up (k := q 6 1) (P := fun i => ∀ x, x = nI i → (∀ j, j < i → q 5 j ≠ p) → G 2 [some (.ref 0), some (.int (nI p)), some (.int x)] [] (eL a s)) ?_ ?_ 0 (Nat.zero_le _) _ rfl (fun j hj => absurd hj (Nat.not_lt_zero j))
  · intro x hx hn
    subst hx
    refine xwp_go g1 [2] 100 _ _ _ _ ?_
    refine And.intro (fun h => ?_) (fun h => ?_)
    · exact xrz (G := G) g2 rfl (Or.inl rfl) (by rw [wishB_n hn]; rfl) rfl
    · rw [h1] at h
      exact absurd (nI_le (Nat.le_refl _) (by omega)) h
  · intro i hi ih x hx hn
    subst hx
    refine xwp_go g1 [2] 100 _ _ _ _ ?_
    refine And.intro (fun h => ?_) (fun h => ?_)
    · rw [h1] at h
      exact absurd h (nI_ge hi (by omega))
    · refine And.intro (vp_in_nI (by omega) (by decide)) ?_
      have e : a 5 (nI i).toNatClampNeg = nI (q 5 i) := by rw [nI_clamp (by omega), hW i hi]
      have hb := hok.2.2.2.2.2 i hi
      refine And.intro (fun h' => ?_) (fun h' => ?_)
      · rw [e, nI_eq (by omega) (by omega)] at h'
        refine ih _ (nI_1 i) (fun j hj => ?_)
        rcases (by omega : j < i ∨ j = i) with h3 | rfl
        · exact hn j h3
        · exact h'
      · rw [e, nI_eq (by omega) (by omega)] at h'
        exact xrz (G := G) g2 rfl (Or.inr rfl) (by rw [wishB_y hi h']; rfl) rfl
theorem c_wantedPicture (d : Nat) {q : LQ} {a : Nat → Nat → Int32} {s : Nat → Int32} (hr : relS q a s) {i : Nat} (hi : i < q 6 1) : xCt xMs (d + 2) nX1_wantedPicture [.ref 0, .int (nI i)] (eL a s) (xRet (nI (q 5 i)) (eL a s)) := by
  have h6 := hr.1.2.1
  refine xV (M := mX1_wantedPicture) rfl rfl rfl rfl rfl pX1_wantedPicture rfl (fun G g1 g2 g3 => ?_)
  refine xwp_go g1 [] 100 _ _ _ _ ?_
  refine xcallR (G := G) g3 [0, 1, 2, 3, 4, 5, 6] (c_hasWanted d hr (nI i)) ?_
  rw [hasB_in (by omega) hi]
  refine xwp_go g1 [] 100 _ _ _ _ ?_
  refine And.intro (fun h => absurd h (by decide)) (fun h => ?_)
  refine And.intro (vp_in_nI (by omega) (by decide)) ?_
  exact xri (G := G) g2 rfl (by rw [nI_clamp (by omega), hr.2.2.1 i hi]) rfl
theorem c_cracked (d : Nat) {q : LQ} {a : Nat → Nat → Int32} {s : Nat → Int32} (hr : relS q a s) {i : Nat} (hi : i < q 6 0) : xCt xMs (d + 1) nX1_cracked [.ref 0, .int (nI i)] (eL a s) (xRet (nI (clr (q 2 i) (q 1 i))) (eL a s)) := by
  obtain ⟨hok, hA, hW, h0, h1, h2⟩ := hr
  have h6 := hok.1
  obtain ⟨k0, k1, k2, k3, k4⟩ := hA i hi
  obtain ⟨b0, b1, b2, b3, b4⟩ := hok.2.2.2.2.1 i hi
  refine xV (M := mX1_cracked) rfl rfl rfl rfl rfl pX1_cracked rfl (fun G g1 g2 g3 => ?_)
  refine xwp_go g1 [] 100 _ _ _ _ ?_
  refine And.intro (vp_in_nI (by omega) (by decide)) ?_
  refine And.intro (vp_in_nI (by omega) (by decide)) ?_
  exact xri (G := G) g2 rfl (by rw [nI_clamp (by omega), k2, k1, nI_pow (by omega), nI_andn]; rfl) rfl
theorem c_onSlide (d : Nat) {q : LQ} {a : Nat → Nat → Int32} {s : Nat → Int32} (hr : relS q a s) {i : Nat} (hi : i < q 6 0) : xCt xMs (d + 2) nX1_onSlide [.ref 0, .int (nI i)] (eL a s) (xRet (nI (onQ q i)) (eL a s)) := by
  have hr' := hr
  obtain ⟨hok, hA, hW, h0, h1, h2⟩ := hr
  have h6 := hok.1
  obtain ⟨k0, k1, k2, k3, k4⟩ := hA i hi
  obtain ⟨b0, b1, b2, b3, b4⟩ := hok.2.2.2.2.1 i hi
  refine xV (M := mX1_onSlide) rfl rfl rfl rfl rfl pX1_onSlide rfl (fun G g1 g2 g3 => ?_)
  refine xwp_go g1 [] 100 _ _ _ _ ?_
  refine xcallR (G := G) g3 [0, 1, 2, 3, 4, 5, 6] (c_has d hr' (nI i)) ?_
  rw [hasB_in (by omega) hi]
  refine xwp_go g1 [] 100 _ _ _ _ ?_
  refine And.intro (fun h => ?_) (fun h => absurd h (by decide))
  refine And.intro (vp_in_nI (by omega) (by decide)) ?_
  refine And.intro (vp_in_nI (by omega) (by decide)) ?_
  have e2 : a 2 (nI i).toNatClampNeg = nI (q 2 i) := by rw [nI_clamp (by omega), k2]
  have e0 : a 0 (nI i).toNatClampNeg = nI (q 0 i) := by rw [nI_clamp (by omega), k0]
  have e1 : a 1 (nI i).toNatClampNeg = nI (q 1 i) := by rw [nI_clamp (by omega), k1]
  rw [e0]
  have ne : ∀ {c : Nat}, c < 6 → ¬ nI (q 0 i) = nI c → q 0 i ≠ c := fun hc h e => h (by rw [e])
  have eq : ∀ {c : Nat}, c < 6 → nI (q 0 i) = nI c → q 0 i = c := fun hc h => (nI_eq (by omega) (by omega)).mp h
  refine And.intro (fun h => ?_) (fun h1 => ?_)
  · rw [e2]
    refine xcallR (G := G) g3 [] (c_mirrored d [] b2) ?_
    refine xwp_go g1 [] 100 _ _ _ _ ?_
    exact xri (G := G) g2 rfl (by rw [on_1 (eq (c := 1) (by decide) h)]) rfl
  refine And.intro (fun h => ?_) (fun h2 => ?_)
  · rw [e2]
    refine xcallR (G := G) g3 [] (c_mirrored d [] b2) ?_
    refine xwp_go g1 [] 100 _ _ _ _ ?_
    refine xcallR (G := G) g3 [] (c_flipped d [] (mirN_lt _)) ?_
    refine xwp_go g1 [] 100 _ _ _ _ ?_
    exact xri (G := G) g2 rfl (by rw [on_2 (eq (c := 2) (by decide) h)]) rfl
  refine And.intro (fun h => ?_) (fun h3 => ?_)
  · refine xri (G := G) g2 rfl ?_ rfl
    rw [e2, show (65535 : Int32) = nI 65535 from rfl, nI_andn, on_3 (eq (c := 3) (by decide) h)]
    rfl
  refine And.intro (fun h => ?_) (fun h4 => ?_)
  · refine xcallR (G := G) g3 [0, 1, 2, 3, 4, 5, 6] (c_cracked d hr' hi) ?_
    refine xwp_go g1 [] 100 _ _ _ _ ?_
    exact xri (G := G) g2 rfl (by rw [on_4 (eq (c := 4) (by decide) h)]) rfl
  refine And.intro (fun h => ?_) (fun h5 => ?_)
  · refine xcallR (G := G) g3 [0, 1, 2, 3, 4, 5, 6] (c_cracked d hr' hi) ?_
    refine xwp_go g1 [] 100 _ _ _ _ ?_
    refine And.intro (vp_in_nI (by omega) (by decide)) ?_
    refine And.intro (by decide) ?_
    rw [e1, show (4 : Int32) = nI 4 from rfl, pk_rem (by omega) (by decide) (by decide)]
    refine xcallR (G := G) g3 [] (c_shifted d [] (clr_lt (n := 16) b2) (Nat.mod_lt _ (by decide))) ?_
    refine xwp_go g1 [] 100 _ _ _ _ ?_
    exact xri (G := G) g2 rfl (by rw [on_5 (eq (c := 5) (by decide) h)]) rfl
  · refine xri (G := G) g2 rfl ?_ rfl
    have := ne (c := 1) (by decide) h1
    have := ne (c := 2) (by decide) h2
    have := ne (c := 3) (by decide) h3
    have := ne (c := 4) (by decide) h4
    have := ne (c := 5) (by decide) h5
    rw [e2, on_0 (by omega)]
end
section
/-! the class's Lantern, second half -/
/-- ends: an int, nothing, with a lantern that is q' -/
def xRetP (r : Int32) (q' : LQ) (s : Nat → Int32) : xPost := fun v w => v = some (.int r) ∧ ∃ a', relS q' a' s ∧ w = eL a' s
def xRetQ (q' : LQ) (s : Nat → Int32) : xPost := fun v w => v = none ∧ ∃ a', relS q' a' s ∧ w = eL a' s
theorem c_laid (d : Nat) {q : LQ} {a : Nat → Nat → Int32} {s : Nat → Int32} (hr : relS q a s) {set over : Nat} (hs : set < 2 ^ 31) (ho : over < 2 ^ 31) : xCt xMs (d + 3) nX1_laid [.ref 0, .int (nI set), .int (nI over)] (eL a s) (xRet (nI (laidQ q set over)) (eL a s)) := by
  have hr' := hr
  obtain ⟨hok, hA, hW, h0, h1, h2⟩ := hr
  have h6 := hok.1
  refine xV (M := mX1_laid) rfl rfl rfl rfl rfl pX1_laid rfl (fun G g1 g2 g3 => ?_)
  refine xwp_go g1 [5] 100 _ _ _ _ ?_
  refine up (k := q 6 0) (P := fun i => ∀ x y z, x = nI i → y = nI (laidL q set over i) → G 5 [some (.ref 0), some (.int (nI set)), some (.int (nI over)), some (.int y), some (.int x), z] [] (eL a s)) ?_ ?_ 0 (Nat.zero_le _) _ _ _ rfl rfl
  · intro x y z hx hy
    subst hx; subst hy
    refine xwp_go g1 [5] 100 _ _ _ _ ?_
    refine And.intro (fun h => ?_) (fun h => ?_)
    · exact xri (G := G) g2 rfl rfl rfl
    · rw [h0] at h
      exact absurd (nI_le (Nat.le_refl _) (by omega)) h
  · intro i hi ih x y z hx hy
    subst hx; subst hy
    refine xwp_go g1 [5] 100 _ _ _ _ ?_
    refine And.intro (fun h => ?_) (fun h => ?_)
    · rw [h0] at h
      exact absurd h (nI_ge hi (by omega))
    · refine And.intro (fun h => ?_) (fun h => ?_)
      · rw [nI_bit0 (by omega) hs, Bool.not_eq_false] at h
        refine xcallR (G := G) g3 [0, 1, 2, 3, 4, 5, 6] (c_onSlide d hr' hi) ?_
        refine xwp_go g1 [5] 100 _ _ _ _ ?_
        refine And.intro (fun h' => ?_) (fun h' => ?_)
        · rw [nI_bit0 (by omega) ho] at h'
          refine ih _ _ _ (nI_1 i) ?_
          rw [fa_or, laidL_s h, if_neg (by rw [h']; decide)]
        · rw [nI_bit0 (by omega) ho, Bool.not_eq_false] at h'
          refine xcallR (G := G) g3 [] (c_mirrored (d + 1) [] (onQ_lt hok hi)) ?_
          refine xwp_go g1 [5] 100 _ _ _ _ ?_
          refine ih _ _ _ (nI_1 i) ?_
          rw [fa_or, laidL_s h, if_pos h']
      · rw [nI_bit0 (by omega) hs] at h
        exact ih _ _ _ (nI_1 i) (by rw [laidL_n h])
theorem c_told (d : Nat) {q : LQ} {a : Nat → Nat → Int32} {s : Nat → Int32} (hr : relS q a s) {i w : Nat} (hi : i < q 6 0) (hw : w ≤ 5) : xCt xMs (d + 3) nX1_told [.ref 0, .int (nI i), .int (nI w)] (eL a s) (xRet (nI (toldQ q i w)) (eL a s)) := by
  have h6 := hr.1.1
  obtain ⟨k0, k1, k2, k3, k4⟩ := hr.2.1 i hi
  have cl : (nI i).toNatClampNeg = i := nI_clamp (by omega)
  refine xV (M := mX1_told) rfl rfl rfl rfl rfl pX1_told rfl (fun G g1 g2 g3 => ?_)
  refine xwp_go g1 [] 100 _ _ _ _ ?_
  refine xcallR (G := G) g3 [0, 1, 2, 3, 4, 5, 6] (c_has (d + 1) hr (nI i)) ?_
  rw [hasB_in (by omega) hi]
  refine xwp_go g1 [] 100 _ _ _ _ ?_
  refine And.intro (fun h => ?_) (fun h => absurd h (by decide))
  have eq : ∀ {c : Nat}, c < 6 → nI w = nI c → w = c := fun hc h => (nI_eq (by omega) (by omega)).mp h
  have ne : ∀ {c : Nat}, c < 6 → ¬ nI w = nI c → w ≠ c := fun hc h e => h (by rw [e])
  refine And.intro (fun h => ?_) (fun h1 => ?_)
  · refine And.intro (vp_in_nI (by omega) (by decide)) ?_
    exact xri (G := G) g2 rfl (by rw [cl, k0, eq (c := 0) (by decide) h]; rfl) rfl
  refine And.intro (fun h => ?_) (fun h2 => ?_)
  · refine And.intro (vp_in_nI (by omega) (by decide)) ?_
    exact xri (G := G) g2 rfl (by rw [cl, k1, eq (c := 1) (by decide) h]; rfl) rfl
  refine And.intro (fun h => ?_) (fun h3 => ?_)
  · refine And.intro (vp_in_nI (by omega) (by decide)) ?_
    exact xri (G := G) g2 rfl (by rw [cl, k2, eq (c := 2) (by decide) h]; rfl) rfl
  refine And.intro (fun h => ?_) (fun h4 => ?_)
  · refine xcallR (G := G) g3 [0, 1, 2, 3, 4, 5, 6] (c_onSlide d hr hi) ?_
    refine xwp_go g1 [] 100 _ _ _ _ ?_
    exact xri (G := G) g2 rfl (by rw [eq (c := 3) (by decide) h]; rfl) rfl
  refine And.intro (fun h => ?_) (fun h5 => ?_)
  · refine And.intro (vp_in_nI (by omega) (by decide)) ?_
    exact xri (G := G) g2 rfl (by rw [cl, k3, eq (c := 4) (by decide) h]; rfl) rfl
  · refine And.intro (vp_in_nI (by omega) (by decide)) ?_
    have := ne (c := 0) (by decide) h1
    have := ne (c := 1) (by decide) h2
    have := ne (c := 2) (by decide) h3
    have := ne (c := 3) (by decide) h4
    have := ne (c := 4) (by decide) h5
    exact xri (G := G) g2 rfl (by rw [cl, k4, show w = 5 by omega]; rfl) rfl
theorem c_repriced (d : Nat) {q : LQ} {a : Nat → Nat → Int32} {s : Nat → Int32} (hr : relS q a s) {i v : Nat} (hi : i < q 6 0) (hv : v ≤ 99) : xCt xMs (d + 2) nX1_repriced [.ref 0, .int (nI i), .int (nI v)] (eL a s) (xRetP (nI (q 3 i)) (priceQ q i v) s) := by
  have h6 := hr.1.1
  obtain ⟨k0, k1, k2, k3, k4⟩ := hr.2.1 i hi
  have cl : (nI i).toNatClampNeg = i := nI_clamp (by omega)
  refine xV (M := mX1_repriced) rfl rfl rfl rfl rfl pX1_repriced rfl (fun G g1 g2 g3 => ?_)
  refine xwp_go g1 [] 100 _ _ _ _ ?_
  refine xcallR (G := G) g3 [0, 1, 2, 3, 4, 5, 6] (c_has d hr (nI i)) ?_
  rw [hasB_in (by omega) hi]
  refine xwp_go g1 [] 100 _ _ _ _ ?_
  refine And.intro (fun h => ?_) (fun h => absurd h (by decide))
  refine And.intro (vp_in_nI (by omega) (by decide)) ?_
  refine And.intro (vp_in_nI (by omega) (by decide)) ?_
  refine xri' (G := G) g2 rfl ⟨by rw [cl, k3], aU a 3 (upd (a 3) (nI i).toNatClampNeg (nI v)), rel_price hr hi hv rfl rfl rfl rfl rfl (fun j => ?_), rfl⟩
  show upd (a 3) (nI i).toNatClampNeg (nI v) j = _
  rw [cl]; rfl
theorem c_wear (d : Nat) {q : LQ} {a : Nat → Nat → Int32} {s : Nat → Int32} (hr : relS q a s) {i : Nat} (hi : i < q 6 0) : xCt xMs (d + 1) nX1_wear [.ref 0, .int (nI i)] (eL a s) (xRetQ (wearQ q i) s) := by
  have hr' := hr
  obtain ⟨hok, hA, hW, h0, h1, h2⟩ := hr
  have h6 := hok.1
  obtain ⟨k0, k1, k2, k3, k4⟩ := hA i hi
  obtain ⟨b0, b1, b2, b3, b4⟩ := hok.2.2.2.2.1 i hi
  have p1 := hok.2.2.1
  have p9 := hok.2.2.2.1
  have cl : (nI i).toNatClampNeg = i := nI_clamp (by omega)
  refine xV (M := mX1_wear) rfl rfl rfl rfl rfl pX1_wear rfl (fun G g1 g2 g3 => ?_)
  refine xwp_go g1 [] 100 _ _ _ _ ?_
  refine And.intro (vp_in_nI (by omega) (by decide)) ?_
  refine And.intro (vp_in_nI (by omega) (by decide)) ?_
  have hu := useN_le (q 4 i)
  have eu : (if (99 : Int32) < a 4 (nI i).toNatClampNeg + 1 then (99 : Int32) else a 4 (nI i).toNatClampNeg + 1) = nI (useN (q 4 i)) := by
    rw [cl, k4, nI_1, show (99 : Int32) = nI 99 from rfl]
    unfold useN
    by_cases h : q 4 i < 99
    · rw [if_neg (nI_nlt (by omega) (by omega)), if_pos h]
    · rw [if_pos (nI_lt (by omega) (by omega)), if_neg h]
  rw [eu]
  refine And.intro (fun h => ?_) (fun h => ?_)
  · rw [h2] at h
    exact absurd h (nI_nle (by omega) (by omega))
  refine And.intro (by rw [h2]; exact nI_ne0 (by omega) (by omega)) ?_
  have e4 : ∀ j, upd (a 4) (nI i).toNatClampNeg (nI (useN (q 4 i))) j = if j = i then nI (useN (q 4 i)) else a 4 j := fun j => by rw [cl]; rfl
  have hm : useN (q 4 i) % q 6 2 < 2 ^ 31 := Nat.lt_of_le_of_lt (Nat.mod_le _ _) (by omega)
  refine And.intro (fun h => ?_) (fun h => ?_) <;> rw [h2, pk_rem (by omega) (by omega) (by omega)] at h
  · have hne : ¬ useN (q 4 i) % q 6 2 = 0 := fun e => h (by rw [e]; rfl)
    refine xrv' (G := G) g2 rfl ⟨rfl, aU a 4 (upd (a 4) (nI i).toNatClampNeg (nI (useN (q 4 i)))), rel_wear hr' hi rfl rfl rfl rfl e4 (fun j => ?_), rfl⟩
    rw [if_neg hne]
    show a 2 j = _
    by_cases e : j = i
    · rw [if_pos e, e, k2]
    · rw [if_neg e]
  · have he : useN (q 4 i) % q 6 2 = 0 := (nI_eq hm (by decide)).mp h
    refine And.intro (vp_in_nI (by omega) (by decide)) ?_
    refine And.intro (by decide) ?_
    refine And.intro (vp_in_nI (by omega) (by decide)) ?_
    refine xrv' (G := G) g2 rfl ⟨rfl, aU (aU a 4 (upd (a 4) (nI i).toNatClampNeg (nI (useN (q 4 i))))) 2 (upd (a 2) (nI i).toNatClampNeg _), rel_wear hr' hi rfl rfl rfl rfl e4 (fun j => ?_), rfl⟩
    rw [if_pos he]
    show upd (a 2) (nI i).toNatClampNeg _ j = _
    rw [show (16 : Int32) = nI 16 from rfl, pk_rem (by omega) (by decide) (by decide), cl, k2, nI_pow (by omega), nI_andn]
    rfl
theorem c_projected (d : Nat) {q : LQ} {a : Nat → Nat → Int32} {s : Nat → Int32} (hr : relS q a s) {set : Nat} (hs : set < 2 ^ 31) : xCt xMs (d + 4) nX1_projected [.ref 0, .int (nI set)] (eL a s) (xRetP (nI (laidQ q set 0)) (projQ q set) s) := by
  have h6 := hr.1.1
  refine xV (M := mX1_projected) rfl rfl rfl rfl rfl pX1_projected rfl (fun G g1 g2 g3 => ?_)
  refine xwp_go g1 [9] 100 _ _ _ _ ?_
  refine xcallR (G := G) g3 [0, 1, 2, 3, 4, 5, 6] (c_laid d hr hs (show 0 < 2 ^ 31 by decide)) ?_
  refine xwp_go g1 [9] 100 _ _ _ _ ?_
  refine up (k := q 6 0) (P := fun i => ∀ x a1, x = nI i → relS (projL q set i) a1 s → G 9 [some (.ref 0), some (.int (nI set)), some (.int (nI (laidQ q set 0))), some (.int x)] [] (eL a1 s)) ?_ ?_ 0 (Nat.zero_le _) _ _ rfl hr
  · intro x a1 hx h1
    subst hx
    refine xwp_go g1 [9] 100 _ _ _ _ ?_
    refine And.intro (fun h => ?_) (fun h => ?_)
    · exact xri' (G := G) g2 rfl ⟨rfl, a1, h1, rfl⟩
    · rw [hr.2.2.2.1] at h
      exact absurd (nI_le (Nat.le_refl _) (by omega)) h
  · intro i hi ih x a1 hx h1
    subst hx
    refine xwp_go g1 [9] 100 _ _ _ _ ?_
    refine And.intro (fun h => ?_) (fun h => ?_)
    · rw [hr.2.2.2.1] at h
      exact absurd h (nI_ge hi (by omega))
    · refine And.intro (fun h => ?_) (fun h => ?_)
      · rw [nI_bit0 (by omega) hs] at h
        exact ih _ _ (nI_1 i) (by rw [projL_n h]; exact h1)
      · rw [nI_bit0 (by omega) hs, Bool.not_eq_false] at h
        refine xcall (G := G) g3 [0, 1, 2, 3, 4, 5, 6] (c_wear (d + 2) h1 (by rw [projL_6]; exact hi)) (fun v wc' hp _ => ?_)
        obtain ⟨rfl, a2, h2, rfl⟩ := hp
        refine xwp_go g1 [9] 100 _ _ _ _ ?_
        exact ih _ a2 (nI_1 i) (by rw [projL_s h]; exact h2)
end
section
/-! the class's Lantern, third part -/
theorem sumI {b : Nat} (f : Nat → Int32) (q : LQ) (r i : Nat) (h : f i = nI (q r i)) : nI (sumQ q r i) + f i = nI (sumQ q r (i + 1)) := by rw [h, nI_add]; rfl
theorem c_allUses (d : Nat) {q : LQ} {a : Nat → Nat → Int32} {s : Nat → Int32} (hr : relS q a s) : xCt xMs (d + 1) nX1_allUses [.ref 0] (eL a s) (xRet (nI (sumQ q 4 (q 6 0))) (eL a s)) := by
  obtain ⟨hok, hA, hW, h0, h1, h2⟩ := hr
  have h6 := hok.1
  refine xV (M := mX1_allUses) rfl rfl rfl rfl rfl pX1_allUses rfl (fun G g1 g2 g3 => ?_)
  refine xwp_go g1 [4] 100 _ _ _ _ ?_
  refine up (k := q 6 0) (P := fun i => ∀ x y, x = nI i → y = nI (sumQ q 4 i) → G 4 [some (.ref 0), some (.int y), some (.int x)] [] (eL a s)) ?_ ?_ 0 (Nat.zero_le _) _ _ rfl rfl
  · intro x y hx hy
    subst hx; subst hy
    refine xwp_go g1 [4] 100 _ _ _ _ ?_
    refine And.intro (fun h => xri (G := G) g2 rfl rfl rfl) (fun h => ?_)
    rw [h0] at h
    exact absurd (nI_le (Nat.le_refl _) (by omega)) h
  · intro i hi ih x y hx hy
    subst hx; subst hy
    refine xwp_go g1 [4] 100 _ _ _ _ ?_
    refine And.intro (fun h => ?_) (fun h => ?_)
    · rw [h0] at h
      exact absurd h (nI_ge hi (by omega))
    · refine And.intro (vp_in_nI (by omega) (by decide)) ?_
      exact ih _ _ (nI_1 i) (by rw [nI_clamp (by omega), (hA i hi).2.2.2.2, nI_add]; rfl)
theorem c_allPrices (d : Nat) {q : LQ} {a : Nat → Nat → Int32} {s : Nat → Int32} (hr : relS q a s) : xCt xMs (d + 1) nX1_allPrices [.ref 0] (eL a s) (xRet (nI (sumQ q 3 (q 6 0))) (eL a s)) := by
  obtain ⟨hok, hA, hW, h0, h1, h2⟩ := hr
  have h6 := hok.1
  refine xV (M := mX1_allPrices) rfl rfl rfl rfl rfl pX1_allPrices rfl (fun G g1 g2 g3 => ?_)
  refine xwp_go g1 [4] 100 _ _ _ _ ?_
  refine up (k := q 6 0) (P := fun i => ∀ x y, x = nI i → y = nI (sumQ q 3 i) → G 4 [some (.ref 0), some (.int y), some (.int x)] [] (eL a s)) ?_ ?_ 0 (Nat.zero_le _) _ _ rfl rfl
  · intro x y hx hy
    subst hx; subst hy
    refine xwp_go g1 [4] 100 _ _ _ _ ?_
    refine And.intro (fun h => xri (G := G) g2 rfl rfl rfl) (fun h => ?_)
    rw [h0] at h
    exact absurd (nI_le (Nat.le_refl _) (by omega)) h
  · intro i hi ih x y hx hy
    subst hx; subst hy
    refine xwp_go g1 [4] 100 _ _ _ _ ?_
    refine And.intro (fun h => ?_) (fun h => ?_)
    · rw [h0] at h
      exact absurd h (nI_ge hi (by omega))
    · refine And.intro (vp_in_nI (by omega) (by decide)) ?_
      exact ih _ _ (nI_1 i) (by rw [nI_clamp (by omega), (hA i hi).2.2.2.1, nI_add]; rfl)
theorem c_nearestWanted (d : Nat) {q : LQ} {a : Nat → Nat → Int32} {s : Nat → Int32} (hr : relS q a s) {p : Nat} (hp : p < 65536) : xCt xMs (d + 2) nX1_nearestWanted [.ref 0, .int (nI p)] (eL a s) (xRet (whI (nearL q p (q 6 1)).1) (eL a s)) := by
  obtain ⟨hok, hA, hW, h0, h1, h2⟩ := hr
  have h6 := hok.2.1
  refine xV (M := mX1_nearestWanted) rfl rfl rfl rfl rfl pX1_nearestWanted rfl (fun G g1 g2 g3 => ?_)
  refine xwp_go g1 [8] 100 _ _ _ _ ?_
  refine up (k := q 6 1) (P := fun i => ∀ x y z u, x = nI i → y = whI (nearL q p i).1 → z = nI (nearL q p i).2 → G 8 [some (.ref 0), some (.int (nI p)), some (.int y), some (.int z), some (.int x), u] [] (eL a s)) ?_ ?_ 0 (Nat.zero_le _) _ _ _ _ rfl rfl rfl
  · intro x y z u hx hy hz
    subst hx; subst hy; subst hz
    refine xwp_go g1 [8] 100 _ _ _ _ ?_
    refine And.intro (fun h => xri (G := G) g2 rfl rfl rfl) (fun h => ?_)
    rw [h1] at h
    exact absurd (nI_le (Nat.le_refl _) (by omega)) h
  · intro i hi ih x y z u hx hy hz
    subst hx; subst hy; subst hz
    have hb := hok.2.2.2.2.2 i hi
    have hx : q 5 i ^^^ p < 65536 := Nat.xor_lt_two_pow (n := 16) hb hp
    refine xwp_go g1 [8] 100 _ _ _ _ ?_
    refine And.intro (fun h => ?_) (fun h => ?_)
    · rw [h1] at h
      exact absurd h (nI_ge hi (by omega))
    · refine And.intro (vp_in_nI (by omega) (by decide)) ?_
      have e : a 5 (nI i).toNatClampNeg ^^^ nI p = nI (q 5 i ^^^ p) := by rw [nI_clamp (by omega), hW i hi, fb_xorI]
      refine xcallR (G := G) g3 [] (ag1 e (c_bitCount d [] hx)) ?_
      refine xwp_go g1 [8] 100 _ _ _ _ ?_
      have l1 := pop_le (q 5 i ^^^ p)
      have l2 := (nearL_le q p i).1
      have es : nearL q p (i + 1) = if pop (q 5 i ^^^ p) < (nearL q p i).2 then (i + 1, pop (q 5 i ^^^ p)) else nearL q p i := rfl
      refine And.intro (fun h => ?_) (fun h => ?_)
      · rw [nI_leI (by omega) (by omega)] at h
        refine ih _ _ _ _ (nI_1 i) ?_ ?_ <;> rw [es, if_neg (by omega)]
      · rw [nI_leI (by omega) (by omega)] at h
        refine ih _ _ _ _ (nI_1 i) ?_ ?_ <;> rw [es, if_pos (by omega)]
        show nI i = whI (i + 1)
        unfold whI
        rw [if_neg (by omega)]; rfl
theorem bit_and {n c : Nat} (hc : c < 31) (hn : n < 2 ^ 31) : nI n &&& nI (2 ^ c) = 0 ↔ n.testBit c = false := by
  rw [fa_and, ← fb_bit_nat, show (0 : Int32) = nI 0 from rfl]
  exact nI_eq (Nat.lt_of_le_of_lt Nat.and_le_left hn) (by decide)
theorem c_cracksToShow (d : Nat) {q : LQ} {a : Nat → Nat → Int32} {s : Nat → Int32} (hr : relS q a s) {set i p : Nat} (hs : set < 2 ^ 31) (hi : i < q 6 0) (hp : p < 65536) : xCt xMs (d + 4) nX1_cracksToShow [.ref 0, .int (nI set), .int (nI i), .int (nI p)] (eL a s) (xRet (nI (crackL (laidQ q (clr set i) 0) (onQ q i) p 16)) (eL a s)) := by
  have h6 := hr.1.1
  have hon := onQ_lt hr.1 hi
  have hla := laidQ_lt hr.1 (clr set i) 0
  refine xV (M := mX1_cracksToShow) rfl rfl rfl rfl rfl pX1_cracksToShow rfl (fun G g1 g2 g3 => ?_)
  refine xwp_go g1 [27] 100 _ _ _ _ ?_
  have ec : nI set &&& ((1 : Int32) <<< (nI i &&& 31) ^^^ (-1)) = nI (clr set i) := by rw [nI_pow (by omega), nI_andn]; rfl
  refine xcallR (G := G) g3 [0, 1, 2, 3, 4, 5, 6] (agr2 ec rfl (c_laid d hr (clr_lt (f := i) hs) (show 0 < 2 ^ 31 by decide))) ?_
  refine xwp_go g1 [27] 100 _ _ _ _ ?_
  refine xcallR (G := G) g3 [0, 1, 2, 3, 4, 5, 6] (c_onSlide (d + 1) hr hi) ?_
  refine xwp_go g1 [27] 100 _ _ _ _ ?_
  refine up (k := 16) (P := fun c => ∀ x y z, x = nI c → y = nI (crackL (laidQ q (clr set i) 0) (onQ q i) p c) → G 27 [some (.ref 0), some (.int (nI set)), some (.int (nI i)), some (.int (nI p)), some (.int (nI (laidQ q (clr set i) 0))), some (.int (nI (onQ q i))), some (.int y), some (.int x), z] [] (eL a s)) ?_ ?_ 0 (Nat.zero_le _) _ _ _ rfl rfl
  · intro x y z hx hy
    subst hx; subst hy
    refine xwp_go g1 [27] 100 _ _ _ _ ?_
    refine And.intro (fun h => xri (G := G) g2 rfl rfl rfl) (fun h => absurd (by decide) h)
  · intro c hc ih x y z hx hy
    subst hx; subst hy
    refine xwp_go g1 [27] 100 _ _ _ _ ?_
    refine And.intro (fun h => absurd h (nI_ge (b := 16) hc (by decide))) (fun h => ?_)
    have es : crackL (laidQ q (clr set i) 0) (onQ q i) p (c + 1) = crackL (laidQ q (clr set i) 0) (onQ q i) p c + (if (onQ q i).testBit c ∧ laidQ q (clr set i) 0 ||| clr (onQ q i) c = p then 1 else 0) := rfl
    refine And.intro (fun h => ?_) (fun h => ?_)
    · rw [nI_pow (by omega), bit_and (by omega) (by omega)] at h
      exact ih _ _ _ (nI_1 c) (by rw [es, if_neg (by rw [h]; exact fun z => by cases z.1)]; rfl)
    · rw [nI_pow (by omega), bit_and (by omega) (by omega), Bool.not_eq_false] at h
      have hcl : laidQ q (clr set i) 0 ||| clr (onQ q i) c < 65536 := Nat.or_lt_two_pow (n := 16) hla (clr_lt (n := 16) hon)
      refine And.intro (fun h' => ?_) (fun h' => ?_) <;> rw [nI_pow (by omega), nI_andn, fa_or] at h'
      · rw [show (onQ q i ^^^ (onQ q i &&& 2 ^ c)) = clr (onQ q i) c from rfl, nI_eq (by omega) (by omega)] at h'
        exact ih _ _ _ (nI_1 c) (by rw [es, if_neg (fun z => h' z.2)]; rfl)
      · rw [show (onQ q i ^^^ (onQ q i &&& 2 ^ c)) = clr (onQ q i) c from rfl, nI_eq (by omega) (by omega)] at h'
        exact ih _ _ _ (nI_1 c) (by rw [es, if_pos ⟨h, h'⟩, nI_1])
/-- two lanterns -/
def eL2 (a : Nat → Nat → Int32) (s : Nat → Int32) (b : Nat → Nat → Int32) (t : Nat → Int32) : xH := [.inr (0, [.ref 1, .ref 2, .ref 3, .ref 4, .ref 5, .ref 6, .int (s 0), .int (s 1), .int (s 2)]), .inl (8, a 0), .inl (8, a 1), .inl (8, a 2), .inl (8, a 3), .inl (8, a 4), .inl (6, a 5),
  .inr (0, [.ref 8, .ref 9, .ref 10, .ref 11, .ref 12, .ref 13, .int (t 0), .int (t 1), .int (t 2)]), .inl (8, b 0), .inl (8, b 1), .inl (8, b 2), .inl (8, b 3), .inl (8, b 4), .inl (6, b 5)]
def cp5 (a b : Nat → Nat → Int32) (i : Nat) : Nat → Nat → Int32 := fun r => cond (Nat.blt r 5) (upd (a r) i (b r i)) (a r)
theorem upd_at {f : Nat → Int32} {i : Nat} {v : Int32} (j : Nat) : upd f i v j = if j = i then v else f j := rfl
theorem c_becomes (d : Nat) {q : LQ} {a b : Nat → Nat → Int32} {s t : Nat → Int32} (hr : relS q b t) : xCt xMs (d + 1) nX1_becomes [.ref 0, .ref 7] (eL2 a s b t) (fun v w => v = none ∧ ∃ a', relS q a' t ∧ w = eL2 a' t b t) := by
  obtain ⟨hok, hA, hW, h0, h1, h2⟩ := hr
  have h8 := hok.1
  have h6 := hok.2.1
  refine xV (M := mX1_becomes) rfl rfl rfl rfl rfl pX1_becomes rfl (fun G g1 g2 g3 => ?_)
  have second : ∀ a1 : Nat → Nat → Int32, (∀ j, j < q 6 0 → a1 0 j = b 0 j ∧ a1 1 j = b 1 j ∧ a1 2 j = b 2 j ∧ a1 3 j = b 3 j ∧ a1 4 j = b 4 j) → G 84 [some (.ref 0), some (.ref 7), some (.int 0)] [] (eL2 a1 s b t) := by
    intro a0 ha0
    refine up (k := q 6 1) (P := fun i => ∀ x a1, x = nI i → (∀ j, j < q 6 0 → a1 0 j = b 0 j ∧ a1 1 j = b 1 j ∧ a1 2 j = b 2 j ∧ a1 3 j = b 3 j ∧ a1 4 j = b 4 j) → (∀ j, j < i → a1 5 j = b 5 j) → G 84 [some (.ref 0), some (.ref 7), some (.int x)] [] (eL2 a1 s b t)) ?_ ?_ 0 (Nat.zero_le _) _ a0 rfl ha0 (fun j hj => absurd hj (Nat.not_lt_zero j))
    · intro x a1 hx g4 g5
      subst hx
      refine xwp_go g1 [84] 100 _ _ _ _ ?_
      refine And.intro (fun h => ?_) (fun h => ?_)
      · refine xrv' (G := G) g2 rfl ⟨rfl, a1, ⟨hok, fun j hj => ?_, fun j hj => ?_, h0, h1, h2⟩, rfl⟩
        · obtain ⟨e0, e1, e2, e3, e4⟩ := g4 j hj
          rw [e0, e1, e2, e3, e4]
          exact hA j hj
        · rw [g5 j hj]
          exact hW j hj
      · rw [h1] at h
        exact absurd (nI_le (Nat.le_refl _) (by omega)) h
    · intro i hi ih x a1 hx g4 g5
      subst hx
      refine xwp_go g1 [84] 100 _ _ _ _ ?_
      refine And.intro (fun h => ?_) (fun h => ?_)
      · rw [h1] at h
        exact absurd h (nI_ge hi (by omega))
      · refine And.intro (fun h => absurd h (nI_ge (b := 6) (by omega) (by decide))) (fun h => ?_)
        refine And.intro (vp_in_nI (by omega) (by decide)) ?_
        refine And.intro (vp_in_nI (by omega) (by decide)) ?_
        refine ih _ (aU a1 5 (upd (a1 5) (nI i).toNatClampNeg (b 5 (nI i).toNatClampNeg))) (nI_1 i) g4 (fun j hj => ?_)
        show upd (a1 5) (nI i).toNatClampNeg (b 5 (nI i).toNatClampNeg) j = b 5 j
        rw [nI_clamp (by omega), upd_at]
        by_cases e : j = i
        · rw [if_pos e, e]
        · rw [if_neg e]
          exact g5 j (by omega)
  refine xwp_go g1 [2] 100 _ _ _ _ ?_
  refine up (k := q 6 0) (P := fun i => ∀ x a1, x = nI i → (∀ j, j < i → a1 0 j = b 0 j ∧ a1 1 j = b 1 j ∧ a1 2 j = b 2 j ∧ a1 3 j = b 3 j ∧ a1 4 j = b 4 j) → G 2 [some (.ref 0), some (.ref 7), some (.int x)] [] (eL2 a1 s b t)) ?_ ?_ 0 (Nat.zero_le _) _ a rfl (fun j hj => absurd hj (Nat.not_lt_zero j))
  · intro x a1 hx g4
    subst hx
    refine xwp_go g1 [84] 100 _ _ _ _ ?_
    refine And.intro (fun h => second a1 g4) (fun h => ?_)
    rw [h0] at h
    exact absurd (nI_le (Nat.le_refl _) (by omega)) h
  · intro i hi ih x a1 hx g4
    subst hx
    refine xwp_go g1 [2] 100 _ _ _ _ ?_
    refine And.intro (fun h => ?_) (fun h => ?_)
    · rw [h0] at h
      exact absurd h (nI_ge hi (by omega))
    · refine And.intro (fun h => absurd h (nI_ge (b := 8) (by omega) (by decide))) (fun h => ?_)
      refine And.intro (vp_in_nI (by omega) (by decide)) ?_
      refine And.intro (vp_in_nI (by omega) (by decide)) ?_
      refine And.intro (vp_in_nI (by omega) (by decide)) ?_
      refine And.intro (vp_in_nI (by omega) (by decide)) ?_
      refine And.intro (vp_in_nI (by omega) (by decide)) ?_
      refine And.intro (vp_in_nI (by omega) (by decide)) ?_
      refine And.intro (vp_in_nI (by omega) (by decide)) ?_
      refine And.intro (vp_in_nI (by omega) (by decide)) ?_
      refine And.intro (vp_in_nI (by omega) (by decide)) ?_
      refine And.intro (vp_in_nI (by omega) (by decide)) ?_
      refine ih _ (cp5 a1 b (nI i).toNatClampNeg) (nI_1 i) (fun j hj => ?_)
      have key : ∀ r, r < 5 → cp5 a1 b (nI i).toNatClampNeg r j = if j = i then b r i else a1 r j := by
        intro r hr5
        unfold cp5
        rw [show Nat.blt r 5 = true from by simpa [Nat.blt_eq] using hr5, nI_clamp (by omega)]
        rfl
      rw [key 0 (by decide), key 1 (by decide), key 2 (by decide), key 3 (by decide), key 4 (by decide)]
      by_cases e : j = i
      · simp [e]
      · simpa [e] using g4 j (by omega)
/-- what comes of a statement, or not -/
def xAdd (ok : Prop) (q' : LQ) (w0 : xH) : xPost := fun v w => (ok ∧ v = some (.int 1) ∧ ∃ a' s', relS q' a' s' ∧ w = eL a' s') ∨ (¬ ok ∧ v = some (.int 0) ∧ w = w0)
theorem c_heats (d : Nat) {q : LQ} {a : Nat → Nat → Int32} {s : Nat → Int32} (hr : relS q a s) {v : Nat} (hv : v ≤ 9) : xCt xMs (d + 1) nX1_heats [.ref 0, .int (nI v)] (eL a s) (xAdd (1 ≤ v) (heatQ q v) (eL a s)) := by
  refine xV (M := mX1_heats) rfl rfl rfl rfl rfl pX1_heats rfl (fun G g1 g2 g3 => ?_)
  refine xwp_go g1 [] 100 _ _ _ _ ?_
  refine And.intro (fun h => ?_) (fun h => ?_) <;> rw [show (1 : Int32) = nI 1 from rfl, nI_ltI (by omega) (by decide)] at h
  · exact xrz' (G := G) g2 rfl (Or.inl rfl) (Or.inr ⟨by omega, rfl, rfl⟩)
  · refine And.intro (fun h' => ?_) (fun h' => ?_)
    · exact xrz' (G := G) g2 rfl (Or.inr rfl) (Or.inl ⟨by omega, rfl, a, sU s 2 (nI v), rel_heat hr (by omega) hv rfl rfl rfl, rfl⟩)
    · rw [show (9 : Int32) = nI 9 from rfl, nI_leI (by omega) (by decide)] at h'
      omega
theorem c_addsWanted (d : Nat) {q : LQ} {a : Nat → Nat → Int32} {s : Nat → Int32} (hr : relS q a s) {p : Nat} (hp : p < 65536) : xCt xMs (d + 1) nX1_addsWanted [.ref 0, .int (nI p)] (eL a s) (xAdd (q 6 1 < 6) (wantQ q p) (eL a s)) := by
  have h6 := hr.1.2.1
  have h1 := hr.2.2.2.2.1
  refine xV (M := mX1_addsWanted) rfl rfl rfl rfl rfl pX1_addsWanted rfl (fun G g1 g2 g3 => ?_)
  refine xwp_go g1 [] 100 _ _ _ _ ?_
  refine And.intro (fun h => ?_) (fun h => ?_) <;> rw [h1, show (6 : Int32) = nI 6 from rfl, nI_ltI (by omega) (by decide)] at h
  · refine And.intro (by rw [h1]; exact vp_in_nI (by omega) (by decide)) ?_
    refine xrz' (G := G) g2 rfl (Or.inr rfl) (Or.inl ⟨h, rfl, aU a 5 (upd (a 5) (s 1).toNatClampNeg (nI p)), sU s 1 (s 1 + 1), rel_want hr h hp rfl rfl rfl rfl rfl (fun j => ?_) rfl ?_ rfl, rfl⟩)
    · show upd (a 5) (s 1).toNatClampNeg (nI p) j = _
      rw [h1, nI_clamp (by omega)]; rfl
    · show s 1 + 1 = _
      rw [h1, nI_1]
  · exact xrz' (G := G) g2 rfl (Or.inl rfl) (Or.inr ⟨h, rfl, rfl⟩)
theorem c_addsSlide (d : Nat) {q : LQ} {a : Nat → Nat → Int32} {s : Nat → Int32} (hr : relS q a s) {k f r p : Nat} (hk : k ≤ 9) (hf : f ≤ 9) (hr9 : r ≤ 99) (hp : p < 65536) : xCt xMs (d + 1) nX1_addsSlide [.ref 0, .int (nI k), .int (nI f), .int (nI r), .int (nI p)] (eL a s) (xAdd (k ≤ 5 ∧ q 6 0 < 8) (addQ q k f r p) (eL a s)) := by
  have h8 := hr.1.1
  have h0 := hr.2.2.2.1
  refine xV (M := mX1_addsSlide) rfl rfl rfl rfl rfl pX1_addsSlide rfl (fun G g1 g2 g3 => ?_)
  refine xwp_go g1 [] 100 _ _ _ _ ?_
  refine And.intro (fun h => absurd h (nI_pos (by omega))) (fun h => ?_)
  refine And.intro (fun h => ?_) (fun h => ?_) <;> rw [show (5 : Int32) = nI 5 from rfl, nI_ltI (by decide) (by omega)] at h
  · exact xrz' (G := G) g2 rfl (Or.inl rfl) (Or.inr ⟨by omega, rfl, rfl⟩)
  refine And.intro (fun h' => ?_) (fun h' => ?_) <;> rw [h0, show (8 : Int32) = nI 8 from rfl, nI_ltI (by omega) (by decide)] at h'
  · have hin : vp_in (s 0) 8 := by rw [h0]; exact vp_in_nI h' (by decide)
    have cl : (s 0).toNatClampNeg = q 6 0 := by rw [h0]; exact nI_clamp (by omega)
    refine And.intro hin (And.intro hin (And.intro hin (And.intro hin (And.intro hin ?_))))
    refine xrz' (G := G) g2 rfl (Or.inr rfl) (Or.inl ⟨⟨by omega, h'⟩, rfl, aU (aU (aU (aU (aU a 0 (upd (a 0) (s 0).toNatClampNeg (nI k))) 1 (upd (a 1) (s 0).toNatClampNeg (nI f))) 3 (upd (a 3) (s 0).toNatClampNeg (nI r))) 2 (upd (a 2) (s 0).toNatClampNeg (nI p))) 4 (upd (a 4) (s 0).toNatClampNeg 0), sU s 0 (s 0 + 1), rel_add hr h' (by omega) hf hr9 hp rfl ?_ ?_ ?_ ?_ ?_ ?_ rfl rfl, rfl⟩)
    · intro j; show upd (a 0) _ _ j = _; rw [cl]; rfl
    · intro j; show upd (a 1) _ _ j = _; rw [cl]; rfl
    · intro j; show upd (a 2) _ _ j = _; rw [cl]; rfl
    · intro j; show upd (a 3) _ _ j = _; rw [cl]; rfl
    · intro j; show upd (a 4) _ _ j = _; rw [cl]; rfl
    · show s 0 + 1 = _
      rw [h0, nI_1]
  · exact xrz' (G := G) g2 rfl (Or.inl rfl) (Or.inr ⟨by omega, rfl, rfl⟩)
end
section
/-! the reference: numbers, pictures, sets -/
def inB (v l m : Int32) : Bool := decide (l ≤ v ∧ v ≤ m)
def bndI (v l m : Int32) : Int32 := if v < l then -4 else if m < v then -6 else 0
theorem i_le_of_nlt {x y : Int32} (h : ¬ x < y) : y ≤ x := by rw [fa_le]; rw [fa_lt] at h; omega
theorem i_lt_of_nle {x y : Int32} (h : ¬ x ≤ y) : y < x := by rw [fa_lt]; rw [fa_le] at h; omega
theorem i_nlt_of_le {x y : Int32} (h : x ≤ y) : ¬ y < x := by rw [fa_lt]; rw [fa_le] at h; omega
theorem m_isIn (d : Nat) (ws : xH) (v l m : Int32) : xCt xMs (d + 1) nX6_isIn [.int v, .int l, .int m] ws (xRet (bI (inB v l m)) ws) := by
  refine xS (M := mX6_isIn) rfl rfl pX6_isIn rfl (fun G g1 g2 g3 => ?_)
  refine xwp_go g1 [] 100 _ _ _ _ ?_
  refine And.intro (fun h => ?_) (fun h => ?_)
  · exact xrz (G := G) g2 rfl (Or.inl rfl) (by unfold inB; rw [decide_eq_false (fun z => i_nlt_of_le z.1 h)]; rfl) rfl
  refine And.intro (fun h' => ?_) (fun h' => ?_)
  · exact xrz (G := G) g2 rfl (Or.inl rfl) (by unfold inB; rw [decide_eq_false (fun z => i_nlt_of_le z.2 h')]; rfl) rfl
  · exact xrz (G := G) g2 rfl (Or.inr rfl) (by unfold inB; rw [decide_eq_true ⟨i_le_of_nlt h, i_le_of_nlt h'⟩]; rfl) rfl
theorem m_bound (d : Nat) (ws : xH) (v l m : Int32) : xCt xMs (d + 1) nX6_bound [.int v, .int l, .int m] ws (xRet (bndI v l m) ws) := by
  refine xS (M := mX6_bound) rfl rfl pX6_bound rfl (fun G g1 g2 g3 => ?_)
  refine xwp_go g1 [] 100 _ _ _ _ ?_
  refine And.intro (fun h => ?_) (fun h => ?_)
  · refine And.intro (fun h' => ?_) (fun h' => ?_)
    · exact xri (G := G) g2 rfl (by unfold bndI; rw [if_neg (i_nlt_of_le h), if_neg (i_nlt_of_le h')]) rfl
    · exact xri (G := G) g2 rfl (by unfold bndI; rw [if_neg (i_nlt_of_le h), if_pos (i_lt_of_nle h')]) rfl
  · exact xri (G := G) g2 rfl (by unfold bndI; rw [if_pos (i_lt_of_nle h)]) rfl
theorem m_bits (d : Nat) (ws : xH) {p : Nat} (hp : p < 65536) : xCt xMs (d + 1) nX6_bits [.int (nI p)] ws (xRet (nI (pop p)) ws) := by
  refine xS (M := mX6_bits) rfl rfl pX6_bits rfl (fun G g1 g2 g3 => ?_)
  refine xwp_go g1 [4] 100 _ _ _ _ ?_
  refine up (k := 31) (P := fun i => ∀ x y, x = nI i → y = nI (popL p i) → G 4 [some (.int (nI p)), some (.int y), some (.int x)] [] ws) ?_ ?_ 0 (Nat.zero_le _) _ _ rfl rfl
  · intro x y hx hy
    subst hx; subst hy
    refine xwp_go g1 [4] 100 _ _ _ _ ?_
    exact And.intro (fun h => xri (G := G) g2 rfl (by rw [pop31 hp]) rfl) (fun h => absurd (by decide) h)
  · intro i hi ih x y hx hy
    subst hx; subst hy
    refine xwp_go g1 [4] 100 _ _ _ _ ?_
    refine And.intro (fun h => absurd h (nI_ge (b := 31) hi (by decide))) (fun h => ?_)
    exact ih _ _ (nI_1 i) (by rw [nI_bit (by omega) (by omega), nI_add]; rfl)
theorem bit_lt (p c : Nat) : p / 2 ^ c % 2 < 2 := Nat.mod_lt _ (by decide)
theorem sh_bit {p c g : Nat} (hg : g < 16) : nI (p / 2 ^ c % 2) <<< (nI g &&& 31) = nI (p / 2 ^ c % 2 * 2 ^ g) := by
  have h1 := bit_lt p c
  have h2 : (2 : Nat) ^ g < 2 ^ 16 := Nat.pow_lt_pow_right (by decide) hg
  refine nI_shl (by omega) ?_
  have : p / 2 ^ c % 2 * 2 ^ g ≤ 1 * 2 ^ g := Nat.mul_le_mul_right _ (by omega)
  omega
theorem m_mirrored (d : Nat) (ws : xH) {p : Nat} (hp : p < 65536) : xCt xMs (d + 1) nX6_mirrored [.int (nI p)] ws (xRet (nI (mirN p)) ws) := by
  refine xS (M := mX6_mirrored) rfl rfl pX6_mirrored rfl (fun G g1 g2 g3 => ?_)
  refine xwp_go g1 [4] 100 _ _ _ _ ?_
  refine up (k := 16) (P := fun i => ∀ x y, x = nI i → y = nI (pm gMir p i) → G 4 [some (.int (nI p)), some (.int y), some (.int x)] [] ws) ?_ ?_ 0 (Nat.zero_le _) _ _ rfl rfl
  · intro x y hx hy
    subst hx; subst hy
    refine xwp_go g1 [4] 100 _ _ _ _ ?_
    exact And.intro (fun h => xri (G := G) g2 rfl rfl rfl) (fun h => absurd (by decide) h)
  · intro i hi ih x y hx hy
    subst hx; subst hy
    refine xwp_go g1 [4] 100 _ _ _ _ ?_
    refine And.intro (fun h => absurd h (nI_ge (b := 16) hi (by decide))) (fun h => ?_)
    refine And.intro (by decide) ?_
    refine And.intro (by decide) ?_
    refine ih _ _ (nI_1 i) ?_
    have e : nI i / 4 * 4 + 3 - (nI i - nI i / 4 * 4) = nI (gMir i) := by
      rw [show (4 : Int32) = nI 4 from rfl, pk_rem (by omega) (by decide) (by decide), pk_div (by omega) (by decide) (by decide), pk_mul, show (3 : Int32) = nI 3 from rfl, nI_add, pk_sub (by omega)]
      rfl
    rw [e, nI_bit (by omega) (by omega), sh_bit (by unfold gMir; omega), fa_or]
    rfl
theorem m_upsideDown (d : Nat) (ws : xH) {p : Nat} (hp : p < 65536) : xCt xMs (d + 1) nX6_upsideDown [.int (nI p)] ws (xRet (nI (flipN p)) ws) := by
  refine xS (M := mX6_upsideDown) rfl rfl pX6_upsideDown rfl (fun G g1 g2 g3 => ?_)
  refine xwp_go g1 [4] 100 _ _ _ _ ?_
  refine up (k := 16) (P := fun i => ∀ x y, x = nI i → y = nI (pm gFlip p i) → G 4 [some (.int (nI p)), some (.int y), some (.int x)] [] ws) ?_ ?_ 0 (Nat.zero_le _) _ _ rfl rfl
  · intro x y hx hy
    subst hx; subst hy
    refine xwp_go g1 [4] 100 _ _ _ _ ?_
    exact And.intro (fun h => xri (G := G) g2 rfl rfl rfl) (fun h => absurd (by decide) h)
  · intro i hi ih x y hx hy
    subst hx; subst hy
    refine xwp_go g1 [4] 100 _ _ _ _ ?_
    refine And.intro (fun h => absurd h (nI_ge (b := 16) hi (by decide))) (fun h => ?_)
    refine And.intro (by decide) ?_
    refine And.intro (by decide) ?_
    refine ih _ _ (nI_1 i) ?_
    have e : 12 - nI i / 4 * 4 + (nI i - nI i / 4 * 4) = nI (gFlip i) := by
      rw [show (4 : Int32) = nI 4 from rfl, pk_rem (by omega) (by decide) (by decide), pk_div (by omega) (by decide) (by decide), pk_mul, show (12 : Int32) = nI 12 from rfl, pk_sub (by omega), nI_add]
      rfl
    rw [e, nI_bit (by omega) (by omega), sh_bit (by unfold gFlip; omega), fa_or]
    rfl
theorem m_shifted (d : Nat) (ws : xH) {p k : Nat} (hp : p < 65536) (hk : k < 4) : xCt xMs (d + 1) nX6_shifted [.int (nI p), .int (nI k)] ws (xRet (nI (shiftN p k)) ws) := by
  refine xS (M := mX6_shifted) rfl rfl pX6_shifted rfl (fun G g1 g2 g3 => ?_)
  refine xwp_go g1 [4] 100 _ _ _ _ ?_
  refine up (k := 16) (P := fun i => ∀ x y, x = nI i → y = nI (pm (gShift k) p i) → G 4 [some (.int (nI p)), some (.int (nI k)), some (.int y), some (.int x)] [] ws) ?_ ?_ 0 (Nat.zero_le _) _ _ rfl rfl
  · intro x y hx hy
    subst hx; subst hy
    refine xwp_go g1 [4] 100 _ _ _ _ ?_
    exact And.intro (fun h => xri (G := G) g2 rfl rfl rfl) (fun h => absurd (by decide) h)
  · intro i hi ih x y hx hy
    subst hx; subst hy
    refine xwp_go g1 [4] 100 _ _ _ _ ?_
    refine And.intro (fun h => absurd h (nI_ge (b := 16) hi (by decide))) (fun h => ?_)
    refine And.intro (by decide) ?_
    refine And.intro (by decide) ?_
    refine And.intro (by decide) ?_
    refine ih _ _ (nI_1 i) ?_
    have e : nI i / 4 * 4 + ((nI i - nI i / 4 * 4) + nI k - ((nI i - nI i / 4 * 4) + nI k) / 4 * 4) = nI (gShift k i) := by
      rw [show (4 : Int32) = nI 4 from rfl, pk_rem (by omega) (by decide) (by decide), pk_div (by omega) (by decide) (by decide), pk_mul, nI_add, pk_rem (by omega) (by decide) (by decide), nI_add]
      rfl
    rw [e, nI_bit (by omega) (by omega), sh_bit (by unfold gShift; omega), fa_or]
    rfl
theorem m_isSlide (d : Nat) {q : LQ} {a : Nat → Nat → Int32} {s : Nat → Int32} (hr : relS q a s) (x : Int32) : xCt xMs (d + 1) nX6_isSlide [.ref 0, .int x] (eM a s) (xRet (bI (hasB (q 6 0) x)) (eM a s)) := by
  have h0 := hr.2.2.2.1
  refine xV (M := mX6_isSlide) rfl rfl rfl rfl rfl pX6_isSlide rfl (fun G g1 g2 g3 => ?_)
  refine xwp_go g1 [] 100 _ _ _ _ ?_
  refine And.intro (fun h => ?_) (fun h => ?_)
  · exact xrz (G := G) g2 rfl (Or.inl rfl) (by rw [hasB_n1 h]; rfl) rfl
  · refine And.intro (fun h' => ?_) (fun h' => ?_) <;> rw [h0] at h'
    · exact xrz (G := G) g2 rfl (Or.inl rfl) (by rw [hasB_n2 h']; rfl) rfl
    · exact xrz (G := G) g2 rfl (Or.inr rfl) (by rw [hasB_y h h']; rfl) rfl
theorem m_areSlides (d : Nat) {q : LQ} {a : Nat → Nat → Int32} {s : Nat → Int32} (hr : relS q a s) (x : Int32) : xCt xMs (d + 1) nX6_areSlides [.ref 0, .int x] (eM a s) (xRet (bI (setB (q 6 0) x)) (eM a s)) := by
  have h0 := hr.2.2.2.1
  have h8 := hr.1.1
  refine xV (M := mX6_areSlides) rfl rfl rfl rfl rfl pX6_areSlides rfl (fun G g1 g2 g3 => ?_)
  refine xwp_go g1 [] 100 _ _ _ _ ?_
  refine And.intro (fun h => ?_) (fun h => ?_)
  · exact xrz (G := G) g2 rfl (Or.inl rfl) (by rw [set_n h8 h]; rfl) rfl
  · refine And.intro (fun h' => ?_) (fun h' => ?_) <;> rw [h0, set_m h8 h] at h'
    · exact xrz (G := G) g2 rfl (Or.inl rfl) (by rw [Bool.eq_false_iff.mpr h']; rfl) rfl
    · exact xrz (G := G) g2 rfl (Or.inr rfl) (by rw [h']; rfl) rfl
theorem m_isShow (d : Nat) {q : LQ} {a : Nat → Nat → Int32} {s : Nat → Int32} (hr : relS q a s) (x : Int32) : xCt xMs (d + 2) nX6_isShow [.ref 0, .int x] (eM a s) (xRet (bI (showB (q 6 0) x)) (eM a s)) := by
  refine xV (M := mX6_isShow) rfl rfl rfl rfl rfl pX6_isShow rfl (fun G g1 g2 g3 => ?_)
  refine xwp_go g1 [] 100 _ _ _ _ ?_
  refine xcallR (G := G) g3 [0, 1, 2, 3, 4, 5, 6, 7, 8, 9, 10, 11, 12, 13, 14, 15, 16] (m_areSlides d hr x) ?_
  refine xwp_go g1 [] 100 _ _ _ _ ?_
  refine And.intro (fun h => ?_) (fun h => ?_) <;> rw [bI_0] at h
  · exact xrz (G := G) g2 rfl (Or.inl rfl) (by unfold showB; rw [h]; rfl) rfl
  · rw [Bool.not_eq_false] at h
    obtain ⟨m, hm, rfl⟩ := setB_of h
    have := lt256 hr.1
    refine xcallR (G := G) g3 [] (m_bits d [] (p := m) (by omega)) ?_
    refine xwp_go g1 [] 100 _ _ _ _ ?_
    refine xcallR (G := G) g3 [] (m_isIn d [] _ _ _) ?_
    refine xwp_go g1 [] 100 _ _ _ _ ?_
    have hp := pop_le m
    have e : inB (nI (pop m)) 1 4 = (!decide (nI m = 0) && decide (pop m ≤ 4)) := by
      unfold inB
      have ee : ((1 : Int32) ≤ nI (pop m) ∧ nI (pop m) ≤ (4 : Int32)) ↔ (1 ≤ pop m ∧ pop m ≤ 4) := by
        rw [show (1 : Int32) = nI 1 from rfl, show (4 : Int32) = nI 4 from rfl, nI_leI (by decide) (by omega), nI_leI (by omega) (by decide)]
      rw [show decide ((1 : Int32) ≤ nI (pop m) ∧ nI (pop m) ≤ (4 : Int32)) = decide (1 ≤ pop m ∧ pop m ≤ 4) from decide_eq_decide.mpr ee]
      have e0 : nI m = 0 ↔ ¬ 1 ≤ pop m := by
        rw [show (0 : Int32) = nI 0 from rfl, nI_eq (by omega) (by decide)]
        constructor
        · intro h; rw [h]; decide
        · intro h
          have h0 : pop m = 0 := by omega
          have key : ∀ k, popL m k = 0 → m < 2 ^ 16 → ∀ i, i < k → m.testBit i = false := by
            intro k
            induction k with
            | zero => intro _ _ i hi; omega
            | succ k ih =>
              intro h1 h2 i hi
              have h3 : popL m k + m / 2 ^ k % 2 = 0 := h1
              rcases (by omega : i < k ∨ i = k) with h4 | rfl
              · exact ih (by omega) h2 i h4
              · have h5 := bit_tb m i
                cases hb : m.testBit i with
                | false => rfl
                | true => rw [hb, if_pos rfl] at h5; omega
          apply Nat.eq_of_testBit_eq
          intro i
          rw [Nat.zero_testBit]
          by_cases hi : i < 16
          · exact key 16 h0 (by omega) i hi
          · exact Nat.testBit_lt_two_pow (Nat.lt_of_lt_of_le (show m < 2 ^ 16 by omega) (Nat.pow_le_pow_right (by decide) (by omega)))
      by_cases h1 : 1 ≤ pop m
      · rw [decide_eq_false (fun z => (e0.mp z) h1)]
        simp [h1]
      · rw [decide_eq_true (e0.mpr h1)]
        simp [h1]
    have es : showB (q 6 0) (nI m) = inB (nI (pop m)) 1 4 := by
      unfold showB
      rw [h, pk_tn (by omega), e, Bool.true_and]
    rw [es] at g2
    refine And.intro (fun h => ?_) (fun h => ?_) <;> rw [bI_0] at h
    · exact xrz (G := G) g2 rfl (Or.inl rfl) (by rw [h]; rfl) rfl
    · rw [Bool.not_eq_false] at h
      exact xrz (G := G) g2 rfl (Or.inr rfl) (by rw [h]; rfl) rfl
theorem m_isWish (d : Nat) {q : LQ} {a : Nat → Nat → Int32} {s : Nat → Int32} (hr : relS q a s) {p : Nat} (hp : p < 65536) : xCt xMs (d + 1) nX6_isWish [.ref 0, .int (nI p)] (eM a s) (xRet (bI (wishB q p)) (eM a s)) := by
  obtain ⟨hok, hA, hW, h0, h1, h2⟩ := hr
  have h6 := hok.2.1
  refine xV (M := mX6_isWish) rfl rfl rfl rfl rfl pX6_isWish rfl (fun G g1 g2 g3 => ?_)
  refine xwp_go g1 [2] 100 _ _ _ _ ?_
  refine up (k := q 6 1) (P := fun i => ∀ x, x = nI i → (∀ j, j < i → q 5 j ≠ p) → G 2 [some (.ref 0), some (.int (nI p)), some (.int x)] [] (eM a s)) ?_ ?_ 0 (Nat.zero_le _) _ rfl (fun j hj => absurd hj (Nat.not_lt_zero j))
  · intro x hx hn
    subst hx
    refine xwp_go g1 [2] 100 _ _ _ _ ?_
    refine And.intro (fun h => ?_) (fun h => ?_)
    · exact xrz (G := G) g2 rfl (Or.inl rfl) (by rw [wishB_n hn]; rfl) rfl
    · rw [h1] at h
      exact absurd (nI_le (Nat.le_refl _) (by omega)) h
  · intro i hi ih x hx hn
    subst hx
    refine xwp_go g1 [2] 100 _ _ _ _ ?_
    refine And.intro (fun h => ?_) (fun h => ?_)
    · rw [h1] at h
      exact absurd h (nI_ge hi (by omega))
    · refine And.intro (vp_in_nI (by omega) (by decide)) ?_
      have e : a 5 (nI i).toNatClampNeg = nI (q 5 i) := by rw [nI_clamp (by omega), hW i hi]
      have hb := hok.2.2.2.2.2 i hi
      refine And.intro (fun h' => ?_) (fun h' => ?_) <;> rw [e, nI_eq (by omega) (by omega)] at h'
      · refine ih _ (nI_1 i) (fun j hj => ?_)
        rcases (by omega : j < i ∨ j = i) with h3 | rfl
        · exact hn j h3
        · exact h'
      · exact xrz (G := G) g2 rfl (Or.inr rfl) (by rw [wishB_y hi h']; rfl) rfl
theorem m_onSlide (d : Nat) {q : LQ} {a : Nat → Nat → Int32} {s : Nat → Int32} (hr : relS q a s) {i : Nat} (hi : i < q 6 0) : xCt xMs (d + 2) nX6_onSlide [.ref 0, .int (nI i)] (eM a s) (xRet (nI (onQ q i)) (eM a s)) := by
  obtain ⟨hok, hA, hW, h0, h1, h2⟩ := hr
  have h6 := hok.1
  obtain ⟨k0, k1, k2, k3, k4⟩ := hA i hi
  obtain ⟨b0, b1, b2, b3, b4⟩ := hok.2.2.2.2.1 i hi
  have e2 : a 2 (nI i).toNatClampNeg = nI (q 2 i) := by rw [nI_clamp (by omega), k2]
  have e0 : a 0 (nI i).toNatClampNeg = nI (q 0 i) := by rw [nI_clamp (by omega), k0]
  have e1 : a 1 (nI i).toNatClampNeg = nI (q 1 i) := by rw [nI_clamp (by omega), k1]
  have ne : ∀ {c : Nat}, c < 6 → ¬ nI (q 0 i) = nI c → q 0 i ≠ c := fun hc h e => h (by rw [e])
  have eq : ∀ {c : Nat}, c < 6 → nI (q 0 i) = nI c → q 0 i = c := fun hc h => (nI_eq (by omega) (by omega)).mp h
  have hin : vp_in (nI i) 8 := vp_in_nI (by omega) (by decide)
  have ec : nI (q 2 i) &&& ((1 : Int32) <<< (nI (q 1 i) &&& 31) ^^^ (-1)) = nI (clr (q 2 i) (q 1 i)) := by rw [nI_pow (by omega), nI_andn]; rfl
  refine xV (M := mX6_onSlide) rfl rfl rfl rfl rfl pX6_onSlide rfl (fun G g1 g2 g3 => ?_)
  refine xwp_go g1 [] 100 _ _ _ _ ?_
  refine And.intro hin (And.intro hin ?_)
  rw [e0]
  refine And.intro (fun h => ?_) (fun h1 => ?_)
  · refine xcallR (G := G) g3 [] (ag1 e2 (m_mirrored d [] b2)) ?_
    refine xwp_go g1 [] 100 _ _ _ _ ?_
    exact xri (G := G) g2 rfl (by rw [on_1 (eq (c := 1) (by decide) h)]) rfl
  refine And.intro (fun h => ?_) (fun h2 => ?_)
  · refine xcallR (G := G) g3 [] (ag1 e2 (m_mirrored d [] b2)) ?_
    refine xwp_go g1 [] 100 _ _ _ _ ?_
    refine xcallR (G := G) g3 [] (m_upsideDown d [] (mirN_lt _)) ?_
    refine xwp_go g1 [] 100 _ _ _ _ ?_
    exact xri (G := G) g2 rfl (by rw [on_2 (eq (c := 2) (by decide) h)]) rfl
  refine And.intro (fun h => ?_) (fun h3 => ?_)
  · refine xri (G := G) g2 rfl ?_ rfl
    rw [e2, show (65535 : Int32) = nI 65535 from rfl, nI_andn, on_3 (eq (c := 3) (by decide) h)]
    rfl
  refine And.intro (fun h => ?_) (fun h4 => ?_)
  · refine And.intro hin ?_
    exact xri (G := G) g2 rfl (by rw [e2, e1, ec, on_4 (eq (c := 4) (by decide) h)]) rfl
  refine And.intro (fun h => ?_) (fun h5 => ?_)
  · refine And.intro hin (And.intro hin (And.intro (by decide) ?_))
    have ec2 : a 2 (nI i).toNatClampNeg &&& ((1 : Int32) <<< (a 1 (nI i).toNatClampNeg &&& 31) ^^^ (-1)) = nI (clr (q 2 i) (q 1 i)) := by rw [e2, e1, ec]
    have er : a 1 (nI i).toNatClampNeg - a 1 (nI i).toNatClampNeg / 4 * 4 = nI (q 1 i % 4) := by rw [e1, show (4 : Int32) = nI 4 from rfl, pk_rem (by omega) (by decide) (by decide)]
    refine xcallR (G := G) g3 [] (ag2 ec2 er (m_shifted d [] (clr_lt (n := 16) b2) (Nat.mod_lt _ (by decide)))) ?_
    refine xwp_go g1 [] 100 _ _ _ _ ?_
    exact xri (G := G) g2 rfl (by rw [on_5 (eq (c := 5) (by decide) h)]) rfl
  · refine xri (G := G) g2 rfl ?_ rfl
    have := ne (c := 1) (by decide) h1
    have := ne (c := 2) (by decide) h2
    have := ne (c := 3) (by decide) h3
    have := ne (c := 4) (by decide) h4
    have := ne (c := 5) (by decide) h5
    rw [e2, on_0 (by omega)]
end
section
/-! the reference: laying, projecting, refusing -/
theorem beq_ne {r k : Nat} (h : r ≠ k) : Nat.beq r k = false := by
  cases e : Nat.beq r k with
  | false => rfl
  | true => exact absurd (Nat.eq_of_beq_eq_true e) h
theorem aU_ne {a : Nat → Nat → Int32} {r k : Nat} {f : Nat → Int32} (h : r ≠ k) : aU a k f r = a r := by unfold aU; rw [beq_ne h]; rfl
theorem sU_ne {s : Nat → Int32} {r k : Nat} {v : Int32} (h : r ≠ k) : sU s k v r = s r := by unfold sU; rw [beq_ne h]; rfl
abbrev pM : List Nat := [0, 1, 2, 3, 4, 5, 6, 7, 8, 9, 10, 11, 12, 13, 14, 15, 16]
theorem xsubM (a : Nat → Nat → Int32) (s : Nat → Int32) : xsub pM (eM a s) (eM a s) := rfl
theorem xputM (a a' : Nat → Nat → Int32) (s s' : Nat → Int32) : xput pM pM (eM a' s') (eM a s) = eM a' s' := rfl
section XM
variable {tb : xT} {G : xK} {Cl : Nat → List Value → xH → xPost → Prop}
/-- a call of the reference's own methods, on its whole world: changes nothing; makes another world; anything -/
theorem xcM {pc x n c : Nat} {M : xM} {v0 : Int32} {j : Int64} {loc : xL} {st rest : List Value} {a : Nat → Nat → Int32} {s : Nat → Int32} {as : List Value} {r : Int32} (g3 : xG3 xMs tb Cl G) (hC : Cl c as (eM a s) (xRet r (eM a s))) (k : G (pc + 3) loc (.int r :: rest) (eM a s)) (hM : xnth xMs c = some M := by rfl) (hi : xlk tb pc = some ((match M.2.2.2.2.2.2 with | true => .invokestatic x | false => .invokevirtual x), n, [(v0, c)], j) := by rfl)
    (hst : st = (as.map (xrV pM)).reverse ++ rest := by rfl) (hr : Nat.ble (xcat rest) 8 = true := by rfl) : G pc loc st (eM a s) := xcallR g3 pM hC k hM hi hst hr rfl (xsubM a s)
theorem xcMW {pc x n c : Nat} {M : xM} {v0 : Int32} {j : Int64} {loc : xL} {st rest : List Value} {a a' : Nat → Nat → Int32} {s s' : Nat → Int32} {as : List Value} {r : Int32} (g3 : xG3 xMs tb Cl G) (hC : Cl c as (eM a s) (xRet r (eM a' s'))) (k : G (pc + 3) loc (.int r :: rest) (eM a' s')) (hM : xnth xMs c = some M := by rfl) (hi : xlk tb pc = some ((match M.2.2.2.2.2.2 with | true => .invokestatic x | false => .invokevirtual x), n, [(v0, c)], j) := by rfl)
    (hst : st = (as.map (xrV pM)).reverse ++ rest := by rfl) (hr : Nat.ble (xcat rest) 8 = true := by rfl) : G pc loc st (eM a s) := xcallW g3 pM hC (by rw [xputM]; exact k) hM hi hst hr rfl (xsubM a s)
theorem xcMP {pc x n c : Nat} {M : xM} {v0 : Int32} {j : Int64} {loc : xL} {st rest : List Value} {a : Nat → Nat → Int32} {s : Nat → Int32} {as : List Value} {PC : xPost} (g3 : xG3 xMs tb Cl G) (hC : Cl c as (eM a s) PC) (hPC : ∀ v w, PC v w → ∃ a' s', w = eM a' s') (k : ∀ v a' s', PC v (eM a' s') → G (pc + 3) loc (v.toList ++ rest) (eM a' s')) (hM : xnth xMs c = some M := by rfl) (hi : xlk tb pc = some ((match M.2.2.2.2.2.2 with | true => .invokestatic x | false => .invokevirtual x), n, [(v0, c)], j) := by rfl)
    (hst : st = (as.map (xrV pM)).reverse ++ rest := by rfl) (hr : Nat.ble (xcat rest) 8 = true := by rfl) : G pc loc st (eM a s) := by
  refine xcall g3 pM hC (fun v wc' hp _ => ?_) hM hi hst hr rfl (xsubM a s)
  obtain ⟨a', s', rfl⟩ := hPC v wc' hp
  rw [xputM]
  exact k v a' s' hp
end XM
theorem m_laid (d : Nat) {q : LQ} {a : Nat → Nat → Int32} {s : Nat → Int32} (hr : relS q a s) {set over : Nat} (hs : set < 2 ^ 31) (ho : over < 2 ^ 31) : xCt xMs (d + 3) nX6_laid [.ref 0, .int (nI set), .int (nI over)] (eM a s) (xRet (nI (laidQ q set over)) (eM a s)) := by
  have hr' := hr
  obtain ⟨hok, hA, hW, h0, h1, h2⟩ := hr
  have h6 := hok.1
  refine xV (M := mX6_laid) rfl rfl rfl rfl rfl pX6_laid rfl (fun G g1 g2 g3 => ?_)
  refine xwp_go g1 [5] 100 _ _ _ _ ?_
  refine up (k := q 6 0) (P := fun i => ∀ x y, x = nI i → y = nI (laidL q set over i) → G 5 [some (.ref 0), some (.int (nI set)), some (.int (nI over)), some (.int y), some (.int x)] [] (eM a s)) ?_ ?_ 0 (Nat.zero_le _) _ _ rfl rfl
  · intro x y hx hy
    subst hx; subst hy
    refine xwp_go g1 [5] 100 _ _ _ _ ?_
    refine And.intro (fun h => ?_) (fun h => ?_)
    · exact xri (G := G) g2 rfl rfl rfl
    · rw [h0] at h
      exact absurd (nI_le (Nat.le_refl _) (by omega)) h
  · intro i hi ih x y hx hy
    subst hx; subst hy
    refine xwp_go g1 [5] 100 _ _ _ _ ?_
    refine And.intro (fun h => ?_) (fun h => ?_)
    · rw [h0] at h
      exact absurd h (nI_ge hi (by omega))
    · refine And.intro (fun h => ?_) (fun h => ?_) <;> rw [nI_bit1 (by omega) hs] at h
      · exact ih _ _ (nI_1 i) (by rw [laidL_n (by simpa using h)])
      · refine And.intro (fun h' => ?_) (fun h' => ?_) <;> rw [nI_bit1 (by omega) ho] at h'
        · refine xcM (G := G) g3 (m_onSlide d hr' hi) ?_
          refine xwp_go g1 [5] 100 _ _ _ _ ?_
          refine ih _ _ (nI_1 i) ?_
          rw [fa_or, laidL_s h, if_neg h']
        · refine xcM (G := G) g3 (m_onSlide d hr' hi) ?_
          refine xwp_go g1 [5] 100 _ _ _ _ ?_
          refine xcallR (G := G) g3 [] (m_mirrored (d + 1) [] (onQ_lt hok hi)) ?_
          refine xwp_go g1 [5] 100 _ _ _ _ ?_
          refine ih _ _ (nI_1 i) ?_
          rw [fa_or, laidL_s h, if_pos h']
/-- ends of the reference's: an int, nothing, a lantern that is q', all else as it was -/
def sameM (a a' : Nat → Nat → Int32) : Prop := ∀ r, 6 ≤ r → a' r = a r
def xRetM (r : Int32) (q' : LQ) (a : Nat → Nat → Int32) (s : Nat → Int32) : xPost := fun v w => v = some (.int r) ∧ ∃ a', relS q' a' s ∧ sameM a a' ∧ w = eM a' s
theorem m_projects (d : Nat) {q : LQ} {a : Nat → Nat → Int32} {s : Nat → Int32} (hr : relS q a s) {set : Nat} (hs : set < 2 ^ 31) : xCt xMs (d + 4) nX6_projects [.ref 0, .int (nI set)] (eM a s) (xRetM (nI (laidQ q set 0)) (projQ q set) a s) := by
  have h6 := hr.1.1
  have h0 := hr.2.2.2.1
  have h2 := hr.2.2.2.2.2
  have p1 := hr.1.2.2.1
  have p9 := hr.1.2.2.2.1
  refine xV (M := mX6_projects) rfl rfl rfl rfl rfl pX6_projects rfl (fun G g1 g2 g3 => ?_)
  refine xwp_go g1 [9] 100 _ _ _ _ ?_
  refine xcM (G := G) g3 (m_laid d hr hs (show 0 < 2 ^ 31 by decide)) ?_
  refine xwp_go g1 [9] 100 _ _ _ _ ?_
  refine up (k := q 6 0) (P := fun i => ∀ x a1, x = nI i → relS (projL q set i) a1 s → sameM a a1 → G 9 [some (.ref 0), some (.int (nI set)), some (.int (nI (laidQ q set 0))), some (.int x)] [] (eM a1 s)) ?_ ?_ 0 (Nat.zero_le _) _ _ rfl hr (fun _ _ => rfl)
  · intro x a1 hx h1 hsm
    subst hx
    refine xwp_go g1 [9] 100 _ _ _ _ ?_
    refine And.intro (fun h => ?_) (fun h => ?_)
    · exact xri' (G := G) g2 rfl ⟨rfl, a1, h1, hsm, rfl⟩
    · rw [h0] at h
      exact absurd (nI_le (Nat.le_refl _) (by omega)) h
  · intro i hi ih x a1 hx h1 hsm
    subst hx
    have cl : (nI i).toNatClampNeg = i := nI_clamp (by omega)
    have hi' : i < projL q set i 6 0 := by rw [projL_6]; exact hi
    obtain ⟨k0, k1, k2, k3, k4⟩ := h1.2.1 i hi'
    obtain ⟨b0, b1, b2, b3, b4⟩ := h1.1.2.2.2.2.1 i hi'
    have hin : vp_in (nI i) 8 := vp_in_nI (by omega) (by decide)
    have hu := useN_le (projL q set i 4 i)
    refine xwp_go g1 [9, 53] 100 _ _ _ _ ?_
    refine And.intro (fun h => ?_) (fun h => ?_)
    · rw [h0] at h
      exact absurd h (nI_ge hi (by omega))
    refine And.intro (fun h => ?_) (fun h => ?_) <;> rw [nI_bit0 (by omega) hs] at h
    · rw [Bool.not_eq_false] at h
      refine And.intro hin (And.intro hin ?_)
      -- behind the uses: with u the new number
      have rest : ∀ u : Int32, u = nI (useN (projL q set i 4 i)) → G 53 [some (.ref 0), some (.int (nI set)), some (.int (nI (laidQ q set 0))), some (.int (nI i))] [] (eM (aU a1 4 (upd (a1 4) (nI i).toNatClampNeg u)) s) := by
        intro u hu'
        have eu : upd (a1 4) (nI i).toNatClampNeg u (nI i).toNatClampNeg = nI (useN (projL q set i 4 i)) := by rw [upd_at, if_pos rfl, hu']
        have e4 : ∀ j, upd (a1 4) (nI i).toNatClampNeg u j = if j = i then nI (useN (projL q set i 4 i)) else a1 4 j := fun j => by rw [cl, hu']; rfl
        have hm : useN (projL q set i 4 i) % q 6 2 < 2 ^ 31 := Nat.lt_of_le_of_lt (Nat.mod_le _ _) (by omega)
        refine xwp_go g1 [9] 100 _ _ _ _ ?_
        refine And.intro hin (And.intro (by rw [h2]; exact nI_ne0 (by omega) (by omega)) ?_)
        refine And.intro (fun h' => ?_) (fun h' => ?_)
        · have h' : ¬ upd (a1 4) (nI i).toNatClampNeg u (nI i).toNatClampNeg - upd (a1 4) (nI i).toNatClampNeg u (nI i).toNatClampNeg / s 2 * s 2 = 0 := h'
          rw [eu, h2, pk_rem (by omega) (by omega) (by omega)] at h'
          have hne : ¬ useN (projL q set i 4 i) % projL q set i 6 2 = 0 := fun e => h' (by rw [projL_6] at e; rw [e]; rfl)
          refine ih _ (aU a1 4 (upd (a1 4) (nI i).toNatClampNeg u)) (nI_1 i) ?_ (fun r hr => ?_)
          · rw [projL_s h]
            refine rel_wear h1 hi' rfl rfl rfl rfl e4 (fun j => ?_)
            rw [if_neg hne]
            show a1 2 j = _
            by_cases e : j = i
            · rw [if_pos e, e, k2]
            · rw [if_neg e]
          · rw [← hsm r hr]
            exact aU_ne (by omega)
        · have h' : upd (a1 4) (nI i).toNatClampNeg u (nI i).toNatClampNeg - upd (a1 4) (nI i).toNatClampNeg u (nI i).toNatClampNeg / s 2 * s 2 = 0 := h'
          rw [eu, h2, pk_rem (by omega) (by omega) (by omega)] at h'
          have he : useN (projL q set i 4 i) % projL q set i 6 2 = 0 := by rw [projL_6]; exact (nI_eq hm (by decide)).mp h'
          refine And.intro hin (And.intro hin (And.intro (by decide) (And.intro hin ?_)))
          refine ih _ (aU (aU a1 4 (upd (a1 4) (nI i).toNatClampNeg u)) 2 (upd (a1 2) (nI i).toNatClampNeg _)) (nI_1 i) ?_ (fun r hr => ?_)
          · rw [projL_s h]
            refine rel_wear h1 hi' rfl rfl rfl rfl e4 (fun j => ?_)
            rw [if_pos he]
            show upd (a1 2) (nI i).toNatClampNeg (a1 2 (nI i).toNatClampNeg &&& ((1 : Int32) <<< ((upd (a1 4) (nI i).toNatClampNeg u (nI i).toNatClampNeg - upd (a1 4) (nI i).toNatClampNeg u (nI i).toNatClampNeg / 16 * 16) &&& 31) ^^^ (-1))) j = _
            rw [eu, show (16 : Int32) = nI 16 from rfl, pk_rem (by omega) (by decide) (by decide), cl, k2, nI_pow (by omega), nI_andn]
            rfl
          · rw [← hsm r hr]
            rw [aU_ne (by omega), aU_ne (by omega)]
      refine And.intro (fun h' => ?_) (fun h' => ?_) <;> rw [cl, k4, show (99 : Int32) = nI 99 from rfl, nI_leI (by omega) (by omega)] at h'
      · refine And.intro hin (rest _ ?_)
        rw [cl, k4, show (0 : Int32) = nI 0 from rfl, nI_add]
        unfold useN
        rw [if_neg (by omega)]
        exact congrArg nI (by omega)
      · refine And.intro hin (rest _ ?_)
        rw [cl, k4, nI_1]
        unfold useN
        rw [if_pos (by omega)]
    · exact ih _ _ (nI_1 i) (by rw [projL_n h]; exact h1) hsm
/-- what a set costs -/
def costL (q : LQ) (set : Nat) : Nat → Nat
  | 0 => 0
  | i + 1 => costL q set i + (if set.testBit i then q 3 i else 0)
theorem m_pricesOf (d : Nat) {q : LQ} {a : Nat → Nat → Int32} {s : Nat → Int32} (hr : relS q a s) {set : Nat} (hs : set < 2 ^ 31) : xCt xMs (d + 1) nX6_pricesOf [.ref 0, .int (nI set)] (eM a s) (xRet (nI (costL q set (q 6 0))) (eM a s)) := by
  obtain ⟨hok, hA, hW, h0, h1, h2⟩ := hr
  have h6 := hok.1
  refine xV (M := mX6_pricesOf) rfl rfl rfl rfl rfl pX6_pricesOf rfl (fun G g1 g2 g3 => ?_)
  refine xwp_go g1 [4] 100 _ _ _ _ ?_
  refine up (k := q 6 0) (P := fun i => ∀ x y, x = nI i → y = nI (costL q set i) → G 4 [some (.ref 0), some (.int (nI set)), some (.int y), some (.int x)] [] (eM a s)) ?_ ?_ 0 (Nat.zero_le _) _ _ rfl rfl
  · intro x y hx hy
    subst hx; subst hy
    refine xwp_go g1 [4] 100 _ _ _ _ ?_
    refine And.intro (fun h => xri (G := G) g2 rfl rfl rfl) (fun h => ?_)
    rw [h0] at h
    exact absurd (nI_le (Nat.le_refl _) (by omega)) h
  · intro i hi ih x y hx hy
    subst hx; subst hy
    refine xwp_go g1 [4] 100 _ _ _ _ ?_
    refine And.intro (fun h => ?_) (fun h => ?_)
    · rw [h0] at h
      exact absurd h (nI_ge hi (by omega))
    · refine And.intro (vp_in_nI (by omega) (by decide)) ?_
      refine ih _ _ (nI_1 i) ?_
      rw [nI_clamp (by omega), (hA i hi).2.2.2.1, nI_bit (by omega) hs, pk_mul, nI_add, bit_tb]
      refine congrArg nI ?_
      show _ = costL q set i + (if set.testBit i then q 3 i else 0)
      split <;> simp
theorem m_placeOf (d : Nat) (ws : xH) {a b c : Nat} : xCt xMs (d + 1) nX6_placeOf [.int (nI a), .int (nI b), .int (nI c)] ws (xRet (nI (1024 * a + 256 * b + c)) ws) := by
  refine xS (M := mX6_placeOf) rfl rfl pX6_placeOf rfl (fun G g1 g2 g3 => ?_)
  refine xwp_go g1 [] 100 _ _ _ _ ?_
  exact xri (G := G) g2 rfl (by rw [show (1024 : Int32) = nI 1024 from rfl, show (256 : Int32) = nI 256 from rfl, pk_mul, pk_mul, nI_add, nI_add]) rfl
/-- a refusal more -/
def inc (f : Nat → Int32) (k : Nat) : Nat → Int32 := upd f k (f k + 1)
theorem m_no (d : Nat) (a : Nat → Nat → Int32) (s : Nat → Int32) {why : Int32} {k : Nat} (hk : k < 7) (hw : -why = nI k) : xCt xMs (d + 1) nX6_no [.ref 0, .int why] (eM a s) (xRet why (eM (aU a 6 (inc (a 6) k)) s)) := by
  have hin : vp_in (-why) 7 := by rw [hw]; exact vp_in_nI hk (by decide)
  refine xV (M := mX6_no) rfl rfl rfl rfl rfl pX6_no rfl (fun G g1 g2 g3 => ?_)
  refine xwp_go g1 [] 100 _ _ _ _ ?_
  refine And.intro hin (And.intro hin ?_)
  refine xri (G := G) g2 rfl rfl ?_
  have e : (-why).toNatClampNeg = k := by rw [hw]; exact nI_clamp (by omega)
  rw [e]
  rfl
theorem m_lowest (d : Nat) (a : Nat → Nat → Int32) (s : Nat → Int32) {why : Int32} {k : Nat} (hk : k < 7) (hw : -why = nI k) : xCt xMs (d + 1) nX6_lowest [.ref 0, .int why] (eM a s) (xRetL (4000000000000000000 - why.toInt64) (eM (aU a 6 (inc (a 6) k)) s)) := by
  have hin : vp_in (-why) 7 := by rw [hw]; exact vp_in_nI hk (by decide)
  refine xV (M := mX6_lowest) rfl rfl rfl rfl rfl pX6_lowest rfl (fun G g1 g2 g3 => ?_)
  refine xwp_go g1 [] 100 _ _ _ _ ?_
  refine And.intro hin (And.intro hin ?_)
  refine xrl (G := G) g2 rfl rfl ?_
  have e : (-why).toNatClampNeg = k := by rw [hw]; exact nI_clamp (by omega)
  rw [e]
  rfl
end
section
/-! the whole state in numbers; the reference's short calls -/
/-- the lantern; the image (is there one, which); letters; the row; refusals -/
abbrev SG : Type := LQ × (Bool × LQ) × (Nat × (Nat → Nat)) × (Nat × (Nat → Nat)) × (Nat → Int32)
/-- a lantern laid out in a row, from o on -/
def keptA (q : LQ) (f : Nat → Int32) (o : Nat) : Prop := okS q ∧ (∀ i, i < q 6 0 → f (o + i) = nI (q 0 i) ∧ f (o + 8 + i) = nI (q 1 i) ∧ f (o + 16 + i) = nI (q 2 i) ∧ f (o + 24 + i) = nI (q 3 i) ∧ f (o + 32 + i) = nI (q 4 i)) ∧ (∀ i, i < q 6 1 → f (o + 40 + i) = nI (q 5 i)) ∧ f (o + 46) = nI (q 6 0) ∧ f (o + 47) = nI (q 6 1) ∧ f (o + 48) = nI (q 6 2)
def relM (S : SG) (a : Nat → Nat → Int32) (s : Nat → Int32) : Prop := relS S.1 a s ∧ (∀ k, 1 ≤ k → k ≤ 6 → a 6 k = S.2.2.2.2 k) ∧ (s 3 = nI S.2.2.1.1 ∧ S.2.2.1.1 ≤ 80 ∧ ∀ i, i < S.2.2.1.1 → a 7 i = nI (S.2.2.1.2 i) ∧ S.2.2.1.2 i ≤ 255) ∧
  (s 15 = nI S.2.2.2.1.1 ∧ S.2.2.2.1.1 ≤ 12 ∧ ∀ i, i < S.2.2.2.1.1 → a 15 i = nI (S.2.2.2.1.2 i) ∧ S.2.2.2.1.2 i ≤ 255) ∧ s 6 = bI S.2.1.1 ∧ (S.2.1.1 = true → keptA S.2.1.2 (a 11) 0)
/-- an answer, and the state behind it -/
def pMs (x : Int32 × SG) : xPost := fun v w => v = some (.int x.1) ∧ ∃ a s, relM x.2 a s ∧ w = eM a s
def refu (S : SG) (k : Nat) : SG := (S.1, S.2.1, S.2.2.1, S.2.2.2.1, inc S.2.2.2.2 k)
def refK (w : Int32) : Nat := (-w).toNatClampNeg
def rfs (S : SG) (w : Int32) : Int32 × SG := (w, refu S (refK w))
theorem relM_no {S : SG} {a : Nat → Nat → Int32} {s : Nat → Int32} (h : relM S a s) {k : Nat} : relM (refu S k) (aU a 6 (inc (a 6) k)) s := by
  obtain ⟨h1, h2, h3, h4, h5, h6⟩ := h
  refine ⟨h1, fun j hj1 hj6 => ?_, h3, h4, h5, h6⟩
  show inc (a 6) k j = inc S.2.2.2.2 k j
  unfold inc
  rw [upd_at, upd_at]
  by_cases e : j = k
  · subst e
    rw [if_pos rfl, if_pos rfl, h2 j hj1 hj6]
  · rw [if_neg e, if_neg e, h2 j hj1 hj6]
theorem bnd_c (v l m : Int32) : bndI v l m = 0 ∨ bndI v l m = -4 ∨ bndI v l m = -6 := by
  unfold bndI
  split
  · exact Or.inr (Or.inl rfl)
  · split
    · exact Or.inr (Or.inr rfl)
    · exact Or.inl rfl
theorem bnd_k {v l m : Int32} (h : ¬ bndI v l m = 0) : refK (bndI v l m) < 7 ∧ -(bndI v l m) = nI (refK (bndI v l m)) := by
  rcases bnd_c v l m with q | q | q
  · exact absurd q h
  · rw [q]; decide
  · rw [q]; decide
theorem bnd_0 {v : Int32} {l m : Nat} (hl : l < 2 ^ 31) (hm : m < 2 ^ 31) (h : bndI v (nI l) (nI m) = 0) : ∃ n, l ≤ n ∧ n ≤ m ∧ v = nI n := by
  unfold bndI at h
  split at h
  · exact absurd h (by decide)
  · split at h
    · exact absurd h (by decide)
    · next h1 h2 =>
      obtain ⟨j, hj, rfl⟩ := nI_of (x := v) (fun z => h1 (by
        rw [fa_lt] at z ⊢
        rw [nI_toInt hl]
        have : (0 : Int32).toInt = 0 := by decide
        omega))
      rw [nI_ltI hj hl] at h1
      rw [nI_ltI hm hj] at h2
      exact ⟨j, by omega, by omega, rfl⟩
theorem bnd_in {n l m : Nat} (hm : m < 2 ^ 31) (h1 : l ≤ n) (h2 : n ≤ m) : bndI (nI n) (nI l) (nI m) = 0 := by
  unfold bndI
  rw [if_neg (nI_nlt h1 (by omega)), if_neg (nI_nlt h2 (by omega))]
/-- a refusal, at the end of a call of the reference's -/
theorem m_end {tb : xT} {G : xK} {d : Nat} {S : SG} {a : Nat → Nat → Int32} {s : Nat → Int32} {pc pc2 n : Nat} {loc : xL} {r : Int32} {an : List (Int32 × Nat)} {j : Int64} (g2 : xG2 tb (some .int) (pMs (r, S)) G) (h : relM S a s) (hi : xlk tb pc = some (.ireturn, n, an, j)) : G pc loc [.int r] (eM a s) := xri' g2 hi ⟨rfl, a, s, h, rfl⟩
theorem m_feed (d : Nat) {S : SG} {a : Nat → Nat → Int32} {s : Nat → Int32} (hr : relM S a s) (x : Int32) : xCt xMs (d + 2) nX6_feed [.ref 0, .int x] (eM a s) (pMs (if ¬ bndI x 0 255 = 0 then rfs S (bndI x 0 255) else if S.2.2.1.1 = 80 then rfs S (-6) else (nI (S.2.2.1.1 + 1), S.1, S.2.1, (S.2.2.1.1 + 1, fun i => if i = S.2.2.1.1 then x.toNatClampNeg else S.2.2.1.2 i), S.2.2.2.1, S.2.2.2.2))) := by
  obtain ⟨h1, h2, ⟨h3, h30, h31⟩, h4, h5, h6⟩ := hr
  have hr : relM S a s := ⟨h1, h2, ⟨h3, h30, h31⟩, h4, h5, h6⟩
  refine xV (M := mX6_feed) rfl rfl rfl rfl rfl pX6_feed rfl (fun G g1 g2 g3 => ?_)
  refine xwp_go g1 [] 100 _ _ _ _ ?_
  refine xcallR (G := G) g3 [] (m_bound d [] x 0 255) ?_
  refine xwp_go g1 [] 100 _ _ _ _ ?_
  refine And.intro (fun h => ?_) (fun h => ?_)
  · refine And.intro (fun h' => absurd h' h) (fun _ => ?_)
    refine xcMW (G := G) g3 (m_no d a s (bnd_k h).1 (bnd_k h).2) ?_
    refine xwp_go g1 [] 100 _ _ _ _ ?_
    exact xri' (G := G) g2 rfl (by rw [if_pos h]; exact ⟨rfl, _, s, relM_no hr, rfl⟩)
  · obtain ⟨m, -, hm, rfl⟩ := bnd_0 (l := 0) (m := 255) (by decide) (by decide) h
    refine And.intro (fun h' => ?_) (fun h' => ?_) <;> rw [h3, show (80 : Int32) = nI 80 from rfl, nI_eq (by omega) (by decide)] at h'
    · refine And.intro (fun _ => ?_) (fun h'' => absurd h h'')
      have hin : vp_in (s 3) 80 := by rw [h3]; exact vp_in_nI (by omega) (by decide)
      have cl : (s 3).toNatClampNeg = S.2.2.1.1 := by rw [h3]; exact nI_clamp (by omega)
      refine And.intro hin ?_
      refine xri' (G := G) g2 rfl ?_
      rw [if_neg (fun z => z h), if_neg h']
      refine ⟨by rw [h3, nI_1], aU a 7 (upd (a 7) (s 3).toNatClampNeg (nI m)), sU s 3 (s 3 + 1), ⟨h1, h2, ⟨by show s 3 + 1 = _; rw [h3, nI_1], by show S.2.2.1.1 + 1 ≤ 80; omega, fun i hi => ?_⟩, h4, h5, h6⟩, rfl⟩
      show upd (a 7) (s 3).toNatClampNeg (nI m) i = nI (if i = S.2.2.1.1 then (nI m).toNatClampNeg else S.2.2.1.2 i) ∧ (if i = S.2.2.1.1 then (nI m).toNatClampNeg else S.2.2.1.2 i) ≤ 255
      rw [cl, upd_at, nI_clamp (by omega)]
      have hi : i < S.2.2.1.1 + 1 := hi
      by_cases e : i = S.2.2.1.1
      · rw [if_pos e, if_pos e]; exact ⟨rfl, hm⟩
      · rw [if_neg e, if_neg e]; exact h31 i (by omega)
    · refine And.intro (fun h'' => absurd h'' (by decide)) (fun _ => ?_)
      refine xcMW (G := G) g3 (m_no d a s (why := -6) (k := 6) (by decide) (by decide)) ?_
      refine xwp_go g1 [] 100 _ _ _ _ ?_
      exact xri' (G := G) g2 rfl (by rw [if_neg (fun z => z h), if_pos h']; exact ⟨rfl, _, s, relM_no (k := 6) hr, rfl⟩)
theorem m_row (d : Nat) {S : SG} {a : Nat → Nat → Int32} {s : Nat → Int32} (hr : relM S a s) (x : Int32) : xCt xMs (d + 2) nX6_row [.ref 0, .int x] (eM a s) (pMs (if ¬ bndI x 0 255 = 0 then rfs S (bndI x 0 255) else if S.2.2.2.1.1 = 12 then rfs S (-6) else (nI (S.2.2.2.1.1 + 1), S.1, S.2.1, S.2.2.1, (S.2.2.2.1.1 + 1, fun i => if i = S.2.2.2.1.1 then x.toNatClampNeg else S.2.2.2.1.2 i), S.2.2.2.2))) := by
  obtain ⟨h1, h2, h4, ⟨h3, h30, h31⟩, h5, h6⟩ := hr
  have hr : relM S a s := ⟨h1, h2, h4, ⟨h3, h30, h31⟩, h5, h6⟩
  refine xV (M := mX6_row) rfl rfl rfl rfl rfl pX6_row rfl (fun G g1 g2 g3 => ?_)
  refine xwp_go g1 [] 100 _ _ _ _ ?_
  refine xcallR (G := G) g3 [] (m_bound d [] x 0 255) ?_
  refine xwp_go g1 [] 100 _ _ _ _ ?_
  refine And.intro (fun h => ?_) (fun h => ?_)
  · refine And.intro (fun h' => absurd h' h) (fun _ => ?_)
    refine xcMW (G := G) g3 (m_no d a s (bnd_k h).1 (bnd_k h).2) ?_
    refine xwp_go g1 [] 100 _ _ _ _ ?_
    exact xri' (G := G) g2 rfl (by rw [if_pos h]; exact ⟨rfl, _, s, relM_no hr, rfl⟩)
  · obtain ⟨m, -, hm, rfl⟩ := bnd_0 (l := 0) (m := 255) (by decide) (by decide) h
    refine And.intro (fun h' => ?_) (fun h' => ?_) <;> rw [h3, show (12 : Int32) = nI 12 from rfl, nI_eq (by omega) (by decide)] at h'
    · refine And.intro (fun _ => ?_) (fun h'' => absurd h h'')
      have hin : vp_in (s 15) 12 := by rw [h3]; exact vp_in_nI (by omega) (by decide)
      have cl : (s 15).toNatClampNeg = S.2.2.2.1.1 := by rw [h3]; exact nI_clamp (by omega)
      refine And.intro hin ?_
      refine xri' (G := G) g2 rfl ?_
      rw [if_neg (fun z => z h), if_neg h']
      refine ⟨by rw [h3, nI_1], aU a 15 (upd (a 15) (s 15).toNatClampNeg (nI m)), sU s 15 (s 15 + 1), ⟨h1, h2, h4, ⟨by show s 15 + 1 = _; rw [h3, nI_1], by show S.2.2.2.1.1 + 1 ≤ 12; omega, fun i hi => ?_⟩, h5, h6⟩, rfl⟩
      show upd (a 15) (s 15).toNatClampNeg (nI m) i = nI (if i = S.2.2.2.1.1 then (nI m).toNatClampNeg else S.2.2.2.1.2 i) ∧ (if i = S.2.2.2.1.1 then (nI m).toNatClampNeg else S.2.2.2.1.2 i) ≤ 255
      rw [cl, upd_at, nI_clamp (by omega)]
      have hi : i < S.2.2.2.1.1 + 1 := hi
      by_cases e : i = S.2.2.2.1.1
      · rw [if_pos e, if_pos e]; exact ⟨rfl, hm⟩
      · rw [if_neg e, if_neg e]; exact h31 i (by omega)
    · refine And.intro (fun h'' => absurd h'' (by decide)) (fun _ => ?_)
      refine xcMW (G := G) g3 (m_no d a s (why := -6) (k := 6) (by decide) (by decide)) ?_
      refine xwp_go g1 [] 100 _ _ _ _ ?_
      exact xri' (G := G) g2 rfl (by rw [if_neg (fun z => z h), if_pos h']; exact ⟨rfl, _, s, relM_no (k := 6) hr, rfl⟩)
def setQ (S : SG) (q : LQ) : SG := (q, S.2)
theorem relM_q {S : SG} {a a' : Nat → Nat → Int32} {s s' : Nat → Int32} (h : relM S a s) {q : LQ} (hq : relS q a' s') (ha : ∀ r, 6 ≤ r → a' r = a r) (hs : ∀ r, 3 ≤ r → s' r = s r) : relM (setQ S q) a' s' := by
  obtain ⟨h1, h2, h3, h4, h5, h6⟩ := h
  refine ⟨hq, ?_, ?_, ?_, ?_, ?_⟩
  · rw [ha 6 (by decide)]; exact h2
  · rw [ha 7 (by decide), hs 3 (by decide)]; exact h3
  · rw [ha 15 (by decide), hs 15 (by decide)]; exact h4
  · rw [hs 6 (by decide)]; exact h5
  · rw [ha 11 (by decide)]; exact h6
theorem m_heat (d : Nat) {S : SG} {a : Nat → Nat → Int32} {s : Nat → Int32} (hr : relM S a s) (x : Int32) : xCt xMs (d + 2) nX6_heat [.ref 0, .int x] (eM a s) (pMs (if ¬ bndI x 1 9 = 0 then rfs S (bndI x 1 9) else (nI (S.1 6 2), setQ S (heatQ S.1 x.toNatClampNeg)))) := by
  refine xV (M := mX6_heat) rfl rfl rfl rfl rfl pX6_heat rfl (fun G g1 g2 g3 => ?_)
  refine xwp_go g1 [] 100 _ _ _ _ ?_
  refine xcallR (G := G) g3 [] (m_bound d [] x 1 9) ?_
  refine xwp_go g1 [] 100 _ _ _ _ ?_
  refine And.intro (fun h => ?_) (fun h => ?_)
  · obtain ⟨m, hm1, hm, rfl⟩ := bnd_0 (l := 1) (m := 9) (by decide) (by decide) h
    refine xri' (G := G) g2 rfl ?_
    rw [if_neg (fun z => z h), nI_clamp (by omega)]
    exact ⟨by rw [hr.1.2.2.2.2.2], a, sU s 2 (nI m), relM_q hr (rel_heat hr.1 hm1 hm rfl rfl rfl) (fun _ _ => rfl) (fun r h3 => sU_ne (by omega)), rfl⟩
  · refine xcMW (G := G) g3 (m_no d a s (bnd_k h).1 (bnd_k h).2) ?_
    refine xwp_go g1 [] 100 _ _ _ _ ?_
    exact xri' (G := G) g2 rfl (by rw [if_pos h]; exact ⟨rfl, _, s, relM_no hr, rfl⟩)
theorem m_price (d : Nat) {S : SG} {a : Nat → Nat → Int32} {s : Nat → Int32} (hr : relM S a s) (x v : Int32) : xCt xMs (d + 2) nX6_price [.ref 0, .int x, .int v] (eM a s) (pMs (if hasB (S.1 6 0) x = false then rfs S (-1) else if ¬ bndI v 0 99 = 0 then rfs S (bndI v 0 99) else (nI (S.1 3 x.toNatClampNeg), setQ S (priceQ S.1 x.toNatClampNeg v.toNatClampNeg)))) := by
  have h8 := hr.1.1.1
  refine xV (M := mX6_price) rfl rfl rfl rfl rfl pX6_price rfl (fun G g1 g2 g3 => ?_)
  refine xwp_go g1 [] 100 _ _ _ _ ?_
  refine xcM (G := G) g3 (m_isSlide d hr.1 x) ?_
  refine xwp_go g1 [] 100 _ _ _ _ ?_
  refine And.intro (fun h => ?_) (fun h => ?_) <;> rw [bI_0] at h
  · have h' := Bool.not_eq_false _ ▸ h
    obtain ⟨i, hi, rfl⟩ := hasB_of (by omega) h'
    refine xcallR (G := G) g3 [] (m_bound d [] v 0 99) ?_
    refine xwp_go g1 [] 100 _ _ _ _ ?_
    refine And.intro (fun h2 => ?_) (fun h2 => ?_)
    · obtain ⟨m, -, hm, rfl⟩ := bnd_0 (l := 0) (m := 99) (by decide) (by decide) h2
      have hin : vp_in (nI i) 8 := vp_in_nI (by omega) (by decide)
      refine And.intro hin (And.intro hin ?_)
      refine xri' (G := G) g2 rfl ?_
      rw [if_neg h, if_neg (fun z => z h2), nI_clamp (by omega), nI_clamp (by omega)]
      exact ⟨by rw [(hr.1.2.1 i hi).2.2.2.1], aU a 3 (upd (a 3) i (nI m)), s, relM_q hr (rel_price hr.1 hi hm rfl rfl rfl rfl rfl (fun j => rfl)) (fun r h3 => aU_ne (by omega)) (fun _ _ => rfl), rfl⟩
    · refine xcMW (G := G) g3 (m_no d a s (bnd_k h2).1 (bnd_k h2).2) ?_
      refine xwp_go g1 [] 100 _ _ _ _ ?_
      exact xri' (G := G) g2 rfl (by rw [if_neg h, if_pos h2]; exact ⟨rfl, _, s, relM_no hr, rfl⟩)
  · refine xcMW (G := G) g3 (m_no d a s (why := -1) (k := 1) (by decide) (by decide)) ?_
    refine xwp_go g1 [] 100 _ _ _ _ ?_
    exact xri' (G := G) g2 rfl (by rw [if_pos h]; exact ⟨rfl, _, s, relM_no (k := 1) hr, rfl⟩)
end
section
/-! what the short calls answer; the reference's -/
def spSlide (S : SG) (x w : Int32) : Int32 × SG := if hasB (S.1 6 0) x = false then rfs S (-1) else if inB w 0 5 = false then rfs S (-2) else (nI (toldQ S.1 x.toNatClampNeg w.toNatClampNeg), S)
def spWanted (S : SG) (x : Int32) : Int32 × SG := if hasB (S.1 6 1) x = false then rfs S (-1) else (nI (S.1 5 x.toNatClampNeg), S)
def spLay (S : SG) (x y : Int32) : Int32 × SG := if setB (S.1 6 0) x = false ∨ setB (S.1 6 0) y = false then rfs S (-1) else (nI (laidQ S.1 x.toNatClampNeg y.toNatClampNeg), S)
def spProject (S : SG) (x : Int32) : Int32 × SG := if setB (S.1 6 0) x = false then rfs S (-1) else if showB (S.1 6 0) x = false then rfs S (-3) else (nI (laidQ S.1 x.toNatClampNeg 0), setQ S (projQ S.1 x.toNatClampNeg))
def askI (n : Nat) (x p w m : Int32) : Int32 := if setB n x = false then -1 else if inB w 0 m = false then -2 else bndI p 0 65535
def spSure (S : SG) (x p w : Int32) : Int32 × SG := if ¬ askI (S.1 6 0) x p w 2 = 0 then rfs S (askI (S.1 6 0) x p w 2) else
  (let kn := laidQ S.1 x.toNatClampNeg 0
   let pn := p.toNatClampNeg
   if ¬ kn ^^^ (kn &&& pn) = 0 then -9 else if w = 0 then nI (pn ^^^ (pn &&& kn)) else if w = 1 then nI (notN pn) else nI (2 ^ pop kn), S)
def spCount (S : SG) (w : Int32) : Int32 := if inB w 11 16 = true then S.2.2.2.2 (w - 10).toNatClampNeg else if w = 0 then nI (S.1 6 0) else if w = 1 then nI (S.1 6 1) else if w = 2 then nI (S.1 6 2) else if w = 3 then nI (sumQ S.1 4 (S.1 6 0)) else if w = 4 then nI (sumQ S.1 3 (S.1 6 0)) else if w = 5 then nI S.2.2.1.1 else if w = 6 then nI S.2.2.2.1.1 else -9
theorem inB_of {w : Int32} {l m : Nat} (hl : l < 2 ^ 31) (hm : m < 2 ^ 31) (h : inB w (nI l) (nI m) = true) : ∃ k, l ≤ k ∧ k ≤ m ∧ w = nI k := by
  obtain ⟨h1, h2⟩ := of_decide_eq_true h
  obtain ⟨j, hj, rfl⟩ := nI_of (x := w) (fun z => by
    rw [fa_lt] at z
    rw [fa_le, nI_toInt hl] at h1
    have : (0 : Int32).toInt = 0 := by decide
    omega)
  rw [nI_leI hl hj] at h1
  rw [nI_leI hj hm] at h2
  exact ⟨j, h1, h2, rfl⟩
theorem inB_in {l k m : Nat} (hm : m < 2 ^ 31) (h1 : l ≤ k) (h2 : k ≤ m) : inB (nI k) (nI l) (nI m) = true := decide_eq_true ⟨nI_le h1 (by omega), nI_le h2 hm⟩
theorem m_slide (d : Nat) {S : SG} {a : Nat → Nat → Int32} {s : Nat → Int32} (hr : relM S a s) (x w : Int32) : xCt xMs (d + 3) nX6_slide [.ref 0, .int x, .int w] (eM a s) (pMs (spSlide S x w)) := by
  have h8 := hr.1.1.1
  refine xV (M := mX6_slide) rfl rfl rfl rfl rfl pX6_slide rfl (fun G g1 g2 g3 => ?_)
  unfold spSlide at g2
  refine xwp_go g1 [] 100 _ _ _ _ ?_
  refine xcM (G := G) g3 (m_isSlide (d + 1) hr.1 x) ?_
  refine xwp_go g1 [] 100 _ _ _ _ ?_
  refine And.intro (fun h => ?_) (fun h => ?_) <;> rw [bI_0] at h
  · rw [if_neg h] at g2
    have h' := Bool.not_eq_false _ ▸ h
    obtain ⟨i, hi, rfl⟩ := hasB_of (by omega) h'
    obtain ⟨k0, k1, k2, k3, k4⟩ := hr.1.2.1 i hi
    have hin : vp_in (nI i) 8 := vp_in_nI (by omega) (by decide)
    have cl : (nI i).toNatClampNeg = i := nI_clamp (by omega)
    have fin : ∀ {c : Nat} {v : Int32}, c ≤ 5 → w = nI c → v = nI (toldQ S.1 i c) → pMs (if inB w 0 5 = false then rfs S (-2) else (nI (toldQ S.1 (nI i).toNatClampNeg w.toNatClampNeg), S)) (some (.int v)) (eM a s) := by
      intro c v hc hw hv
      rw [hw, show inB (nI c) 0 5 = true from inB_in (l := 0) (m := 5) (by decide) (by omega) hc, if_neg (by decide), cl, nI_clamp (by omega), hv]
      exact ⟨rfl, a, s, hr, rfl⟩
    refine And.intro (fun h => And.intro hin (xri' (G := G) g2 rfl (fin (c := 0) (by decide) h (by rw [cl, k0]; rfl)))) (fun n0 => ?_)
    refine And.intro (fun h => And.intro hin (xri' (G := G) g2 rfl (fin (c := 1) (by decide) h (by rw [cl, k1]; rfl)))) (fun n1 => ?_)
    refine And.intro (fun h => And.intro hin (xri' (G := G) g2 rfl (fin (c := 2) (by decide) h (by rw [cl, k2]; rfl)))) (fun n2 => ?_)
    refine And.intro (fun h => ?_) (fun n3 => ?_)
    · refine xcM (G := G) g3 (m_onSlide d hr.1 hi) ?_
      refine xwp_go g1 [] 100 _ _ _ _ ?_
      exact xri' (G := G) g2 rfl (fin (c := 3) (by decide) h rfl)
    refine And.intro (fun h => And.intro hin (xri' (G := G) g2 rfl (fin (c := 4) (by decide) h (by rw [cl, k3]; rfl)))) (fun n4 => ?_)
    refine And.intro (fun h => And.intro hin (xri' (G := G) g2 rfl (fin (c := 5) (by decide) h (by rw [cl, k4]; rfl)))) (fun n5 => ?_)
    have hno : inB w 0 5 = false := by
      cases hb : inB w 0 5 with
      | false => rfl
      | true =>
        obtain ⟨k, -, hk, rfl⟩ := inB_of (l := 0) (m := 5) (by decide) (by decide) hb
        rcases (by omega : k = 0 ∨ k = 1 ∨ k = 2 ∨ k = 3 ∨ k = 4 ∨ k = 5) with rfl | rfl | rfl | rfl | rfl | rfl
        · exact absurd rfl n0
        · exact absurd rfl n1
        · exact absurd rfl n2
        · exact absurd rfl n3
        · exact absurd rfl n4
        · exact absurd rfl n5
    rw [if_pos hno] at g2
    refine xcMW (G := G) g3 (m_no (d + 1) a s (why := -2) (k := 2) (by decide) (by decide)) ?_
    refine xwp_go g1 [] 100 _ _ _ _ ?_
    exact xri' (G := G) g2 rfl ⟨rfl, _, s, relM_no (k := 2) hr, rfl⟩
  · rw [if_pos h] at g2
    refine xcMW (G := G) g3 (m_no (d + 1) a s (why := -1) (k := 1) (by decide) (by decide)) ?_
    refine xwp_go g1 [] 100 _ _ _ _ ?_
    exact xri' (G := G) g2 rfl ⟨rfl, _, s, relM_no (k := 1) hr, rfl⟩
theorem in_has {n : Nat} (hn : n ≤ 6) (x : Int32) : inB x 0 (nI n - 1) = hasB n x := by
  unfold inB hasB
  refine decide_eq_decide.mpr ?_
  rw [fa_le, fa_le, fa_lt]
  have e : (nI n - 1).toInt = (n : Int) - 1 := pk_sub_toInt (b := 1) (by omega) (by decide)
  rw [e, nI_toInt (by omega)]
  omega
theorem m_wanted (d : Nat) {S : SG} {a : Nat → Nat → Int32} {s : Nat → Int32} (hr : relM S a s) (x : Int32) : xCt xMs (d + 2) nX6_wanted [.ref 0, .int x] (eM a s) (pMs (spWanted S x)) := by
  have h6 := hr.1.1.2.1
  have h1 := hr.1.2.2.2.2.1
  refine xV (M := mX6_wanted) rfl rfl rfl rfl rfl pX6_wanted rfl (fun G g1 g2 g3 => ?_)
  unfold spWanted at g2
  refine xwp_go g1 [] 100 _ _ _ _ ?_
  refine xcallR (G := G) g3 [] (m_isIn d [] x 0 (s 1 - 1)) ?_
  rw [h1, in_has h6]
  refine xwp_go g1 [] 100 _ _ _ _ ?_
  refine And.intro (fun h => ?_) (fun h => ?_) <;> rw [bI_0] at h
  · rw [if_pos h] at g2
    refine xcMW (G := G) g3 (m_no d a s (why := -1) (k := 1) (by decide) (by decide)) ?_
    refine xwp_go g1 [] 100 _ _ _ _ ?_
    exact xri' (G := G) g2 rfl ⟨rfl, _, s, relM_no (k := 1) hr, rfl⟩
  · rw [if_neg h] at g2
    have h' := Bool.not_eq_false _ ▸ h
    obtain ⟨i, hi, rfl⟩ := hasB_of (by omega) h'
    refine And.intro (vp_in_nI (by omega) (by decide)) ?_
    exact xri' (G := G) g2 rfl ⟨by rw [nI_clamp (by omega), hr.1.2.2.1 i hi], a, s, hr, rfl⟩
theorem m_lay (d : Nat) {S : SG} {a : Nat → Nat → Int32} {s : Nat → Int32} (hr : relM S a s) (x y : Int32) : xCt xMs (d + 4) nX6_lay [.ref 0, .int x, .int y] (eM a s) (pMs (spLay S x y)) := by
  have hl := lt256 hr.1.1
  refine xV (M := mX6_lay) rfl rfl rfl rfl rfl pX6_lay rfl (fun G g1 g2 g3 => ?_)
  unfold spLay at g2
  refine xwp_go g1 [] 100 _ _ _ _ ?_
  refine xcM (G := G) g3 (m_areSlides (d + 2) hr.1 x) ?_
  refine xwp_go g1 [] 100 _ _ _ _ ?_
  refine And.intro (fun h => ?_) (fun h => ?_) <;> rw [bI_0] at h
  · rw [if_pos (Or.inl h)] at g2
    refine xcMW (G := G) g3 (m_no (d + 2) a s (why := -1) (k := 1) (by decide) (by decide)) ?_
    refine xwp_go g1 [] 100 _ _ _ _ ?_
    exact xri' (G := G) g2 rfl ⟨rfl, _, s, relM_no (k := 1) hr, rfl⟩
  refine xcM (G := G) g3 (m_areSlides (d + 2) hr.1 y) ?_
  refine xwp_go g1 [] 100 _ _ _ _ ?_
  refine And.intro (fun h' => ?_) (fun h' => ?_) <;> rw [bI_0] at h'
  · rw [if_pos (Or.inr h')] at g2
    refine xcMW (G := G) g3 (m_no (d + 2) a s (why := -1) (k := 1) (by decide) (by decide)) ?_
    refine xwp_go g1 [] 100 _ _ _ _ ?_
    exact xri' (G := G) g2 rfl ⟨rfl, _, s, relM_no (k := 1) hr, rfl⟩
  rw [if_neg (fun z => z.elim h h')] at g2
  obtain ⟨m, hm, rfl⟩ := setB_of (Bool.not_eq_false _ ▸ h)
  obtain ⟨o, ho, rfl⟩ := setB_of (Bool.not_eq_false _ ▸ h')
  rw [nI_clamp (by omega), nI_clamp (by omega)] at g2
  refine xcM (G := G) g3 (m_laid d hr.1 (set := m) (over := o) (by omega) (by omega)) ?_
  refine xwp_go g1 [] 100 _ _ _ _ ?_
  exact xri' (G := G) g2 rfl ⟨rfl, a, s, hr, rfl⟩
theorem m_project (d : Nat) {S : SG} {a : Nat → Nat → Int32} {s : Nat → Int32} (hr : relM S a s) (x : Int32) : xCt xMs (d + 5) nX6_project [.ref 0, .int x] (eM a s) (pMs (spProject S x)) := by
  have hl := lt256 hr.1.1
  refine xV (M := mX6_project) rfl rfl rfl rfl rfl pX6_project rfl (fun G g1 g2 g3 => ?_)
  unfold spProject at g2
  refine xwp_go g1 [] 100 _ _ _ _ ?_
  refine xcM (G := G) g3 (m_areSlides (d + 3) hr.1 x) ?_
  refine xwp_go g1 [] 100 _ _ _ _ ?_
  refine And.intro (fun h => ?_) (fun h => ?_) <;> rw [bI_0] at h
  · rw [if_neg h] at g2
    refine xcM (G := G) g3 (m_isShow (d + 2) hr.1 x) ?_
    refine xwp_go g1 [] 100 _ _ _ _ ?_
    obtain ⟨m, hm, rfl⟩ := setB_of (Bool.not_eq_false _ ▸ h)
    refine And.intro (fun h' => ?_) (fun h' => ?_) <;> rw [bI_0] at h'
    · rw [if_pos h'] at g2
      refine xcMW (G := G) g3 (m_no (d + 3) a s (why := -3) (k := 3) (by decide) (by decide)) ?_
      refine xwp_go g1 [] 100 _ _ _ _ ?_
      exact xri' (G := G) g2 rfl ⟨rfl, _, s, relM_no (k := 3) hr, rfl⟩
    · rw [if_neg h', nI_clamp (by omega)] at g2
      refine xcMP (G := G) g3 (m_projects d hr.1 (set := m) (by omega)) (fun v w hp => ⟨_, _, hp.2.choose_spec.2.2⟩) (fun v a' s' hp => ?_)
      obtain ⟨rfl, a2, h2, h3, h4⟩ := hp
      rw [h4]
      refine xwp_go g1 [] 100 _ _ _ _ ?_
      exact xri' (G := G) g2 rfl ⟨rfl, a2, s, relM_q hr h2 h3 (fun _ _ => rfl), rfl⟩
  · rw [if_pos h] at g2
    refine xcMW (G := G) g3 (m_no (d + 3) a s (why := -1) (k := 1) (by decide) (by decide)) ?_
    refine xwp_go g1 [] 100 _ _ _ _ ?_
    exact xri' (G := G) g2 rfl ⟨rfl, _, s, relM_no (k := 1) hr, rfl⟩
theorem m_notAsked (d : Nat) {q : LQ} {a : Nat → Nat → Int32} {s : Nat → Int32} (hr : relS q a s) (x p w m : Int32) : xCt xMs (d + 2) nX6_notAsked [.ref 0, .int x, .int p, .int w, .int m] (eM a s) (xRet (askI (q 6 0) x p w m) (eM a s)) := by
  refine xV (M := mX6_notAsked) rfl rfl rfl rfl rfl pX6_notAsked rfl (fun G g1 g2 g3 => ?_)
  unfold askI at g2
  refine xwp_go g1 [] 100 _ _ _ _ ?_
  refine xcM (G := G) g3 (m_areSlides d hr x) ?_
  refine xwp_go g1 [] 100 _ _ _ _ ?_
  refine And.intro (fun h => ?_) (fun h => ?_) <;> rw [bI_0] at h
  · rw [if_neg h] at g2
    refine xcallR (G := G) g3 [] (m_isIn d [] w 0 m) ?_
    refine xwp_go g1 [] 100 _ _ _ _ ?_
    refine And.intro (fun h' => ?_) (fun h' => ?_) <;> rw [bI_0] at h'
    · rw [if_neg h'] at g2
      refine xcallR (G := G) g3 [] (m_bound d [] p 0 65535) ?_
      refine xwp_go g1 [] 100 _ _ _ _ ?_
      exact xri (G := G) g2 rfl rfl rfl
    · rw [if_pos h'] at g2
      exact xri (G := G) g2 rfl rfl rfl
  · rw [if_pos h] at g2
    exact xri (G := G) g2 rfl rfl rfl
theorem ask_k {n : Nat} {x p w m : Int32} (h : ¬ askI n x p w m = 0) : refK (askI n x p w m) < 7 ∧ -(askI n x p w m) = nI (refK (askI n x p w m)) := by
  unfold askI at h ⊢
  split
  · decide
  · split
    · decide
    · next h1 h2 =>
      rw [if_neg h1, if_neg h2] at h
      exact bnd_k h
theorem ask_0 {n : Nat} {x p w : Int32} {m : Nat} (hm : m < 2 ^ 31) (h : askI n x p w (nI m) = 0) : (∃ k, k < 2 ^ n ∧ x = nI k) ∧ (∃ k, k ≤ m ∧ w = nI k) ∧ ∃ k, k < 65536 ∧ p = nI k := by
  unfold askI at h
  split at h
  · exact absurd h (by decide)
  · split at h
    · exact absurd h (by decide)
    · next h1 h2 =>
      obtain ⟨k, -, hk, e⟩ := bnd_0 (l := 0) (m := 65535) (by decide) (by decide) h
      obtain ⟨k2, -, hk2, e2⟩ := inB_of (l := 0) (m := m) (by decide) hm (Bool.not_eq_false _ ▸ h2)
      exact ⟨setB_of (Bool.not_eq_false _ ▸ h1), ⟨k2, hk2, e2⟩, ⟨k, by omega, e⟩⟩
theorem m_sure (d : Nat) {S : SG} {a : Nat → Nat → Int32} {s : Nat → Int32} (hr : relM S a s) (x p w : Int32) : xCt xMs (d + 4) nX6_sure [.ref 0, .int x, .int p, .int w] (eM a s) (pMs (spSure S x p w)) := by
  have hl := lt256 hr.1.1
  refine xV (M := mX6_sure) rfl rfl rfl rfl rfl pX6_sure rfl (fun G g1 g2 g3 => ?_)
  unfold spSure at g2
  refine xwp_go g1 [] 100 _ _ _ _ ?_
  refine xcM (G := G) g3 (m_notAsked (d + 1) hr.1 x p w 2) ?_
  refine xwp_go g1 [] 100 _ _ _ _ ?_
  refine And.intro (fun h => ?_) (fun h => ?_)
  · rw [if_neg (fun z => z h)] at g2
    obtain ⟨⟨m, hm, rfl⟩, ⟨k, hk, rfl⟩, ⟨o, ho, rfl⟩⟩ := ask_0 (m := 2) (by decide) h
    rw [nI_clamp (by omega), nI_clamp (by omega)] at g2
    refine xcM (G := G) g3 (m_laid d hr.1 (set := m) (over := 0) (by omega) (by decide)) ?_
    have hkn := laidQ_lt hr.1.1 m 0
    generalize laidQ S.1 m 0 = kn at g2 hkn
    refine xwp_go g1 [] 100 _ _ _ _ ?_
    have hx : kn ^^^ (kn &&& o) < 65536 := Nat.xor_lt_two_pow (n := 16) hkn (Nat.lt_of_le_of_lt Nat.and_le_left hkn)
    dsimp only at g2
    refine And.intro (fun h' => ?_) (fun h' => ?_) <;> rw [nI_andn, show (0 : Int32) = nI 0 from rfl, nI_eq (by omega) (by decide)] at h'
    · rw [if_neg (fun z => z h')] at g2
      refine And.intro (fun h1 => ?_) (fun h1 => ?_)
      · rw [if_neg h1] at g2
        refine And.intro (fun h2 => ?_) (fun h2 => ?_)
        · rw [if_neg h2] at g2
          refine xcallR (G := G) g3 [] (m_bits (d + 2) [] hkn) ?_
          refine xwp_go g1 [] 100 _ _ _ _ ?_
          have := pop_le kn
          exact xri' (G := G) g2 rfl ⟨by rw [nI_pow (by omega)], a, s, hr, rfl⟩
        · rw [if_pos h2] at g2
          exact xri' (G := G) g2 rfl ⟨by rw [show (65535 : Int32) = nI 65535 from rfl, nI_andn]; rfl, a, s, hr, rfl⟩
      · rw [if_pos h1] at g2
        exact xri' (G := G) g2 rfl ⟨by rw [nI_andn], a, s, hr, rfl⟩
    · rw [if_pos h'] at g2
      exact xri' (G := G) g2 rfl ⟨rfl, a, s, hr, rfl⟩
  · rw [if_pos h] at g2
    refine xcMW (G := G) g3 (m_no (d + 2) a s (ask_k h).1 (ask_k h).2) ?_
    refine xwp_go g1 [] 100 _ _ _ _ ?_
    exact xri' (G := G) g2 rfl ⟨rfl, _, s, relM_no hr, rfl⟩
theorem cost_all {q : LQ} : ∀ {n N : Nat}, n ≤ N → costL q (2 ^ N - 1) n = sumQ q 3 n
  | 0, _, _ => rfl
  | n + 1, N, h => by
    show costL q (2 ^ N - 1) n + (if (2 ^ N - 1).testBit n then q 3 n else 0) = sumQ q 3 n + q 3 n
    rw [cost_all (by omega), Nat.testBit_two_pow_sub_one, if_pos (by simpa using (show n < N by omega))]
theorem m_count (d : Nat) {S : SG} {a : Nat → Nat → Int32} {s : Nat → Int32} (hr : relM S a s) (w : Int32) : xCt xMs (d + 2) nX6_count [.ref 0, .int w] (eM a s) (pMs (spCount S w, S)) := by
  have h8 := hr.1.1.1
  obtain ⟨hA, h0, h1, h2⟩ : (∀ i, i < S.1 6 0 → a 4 i = nI (S.1 4 i)) ∧ s 0 = nI (S.1 6 0) ∧ s 1 = nI (S.1 6 1) ∧ s 2 = nI (S.1 6 2) := ⟨fun i hi => (hr.1.2.1 i hi).2.2.2.2, hr.1.2.2.2⟩
  refine xV (M := mX6_count) rfl rfl rfl rfl rfl pX6_count rfl (fun G g1 g2 g3 => ?_)
  unfold spCount at g2
  refine xwp_go g1 [] 100 _ _ _ _ ?_
  refine xcallR (G := G) g3 [] (m_isIn d [] w 11 16) ?_
  refine xwp_go g1 [85] 100 _ _ _ _ ?_
  refine And.intro (fun h => ?_) (fun h => ?_) <;> rw [bI_0] at h
  · rw [if_neg (by rw [h]; decide)] at g2
    refine And.intro (fun h => ?_) (fun n0 => ?_)
    · rw [if_pos h] at g2
      exact xri' (G := G) g2 rfl ⟨by rw [h0], a, s, hr, rfl⟩
    rw [if_neg n0] at g2
    refine And.intro (fun h => ?_) (fun n0 => ?_)
    · rw [if_pos h] at g2
      exact xri' (G := G) g2 rfl ⟨by rw [h1], a, s, hr, rfl⟩
    rw [if_neg n0] at g2
    refine And.intro (fun h => ?_) (fun n0 => ?_)
    · rw [if_pos h] at g2
      exact xri' (G := G) g2 rfl ⟨by rw [h2], a, s, hr, rfl⟩
    rw [if_neg n0] at g2
    refine And.intro (fun h => ?_) (fun n0 => ?_)
    · rw [if_pos h] at g2
      refine up (k := S.1 6 0) (P := fun i => ∀ x y, x = nI i → y = nI (sumQ S.1 4 i) → G 85 [some (.ref 0), some (.int w), some (.int y), some (.int x)] [] (eM a s)) ?_ ?_ 0 (Nat.zero_le _) _ _ rfl rfl
      · intro x y hx hy
        subst hx; subst hy
        refine xwp_go g1 [85] 100 _ _ _ _ ?_
        refine And.intro (fun h => xri' (G := G) g2 rfl ⟨rfl, a, s, hr, rfl⟩) (fun h => ?_)
        rw [h0] at h
        exact absurd (nI_le (Nat.le_refl _) (by omega)) h
      · intro i hi ih x y hx hy
        subst hx; subst hy
        refine xwp_go g1 [85] 100 _ _ _ _ ?_
        refine And.intro (fun h => ?_) (fun h => ?_)
        · rw [h0] at h
          exact absurd h (nI_ge hi (by omega))
        · refine And.intro (vp_in_nI (by omega) (by decide)) ?_
          exact ih _ _ (nI_1 i) (by rw [nI_clamp (by omega), hA i hi, nI_add]; rfl)
    rw [if_neg n0] at g2
    refine And.intro (fun h => ?_) (fun n0 => ?_)
    · rw [if_pos h] at g2
      have hl := lt256 hr.1.1
      have hpos := Nat.two_pow_pos (S.1 6 0)
      have e : (1 : Int32) <<< (s 0 &&& 31) - 1 = nI (2 ^ S.1 6 0 - 1) := by rw [h0, nI_pow (by omega), show (1 : Int32) = nI 1 from rfl, pk_sub hpos]
      refine xcM (G := G) g3 (agr1 e (m_pricesOf d hr.1 (by omega))) ?_
      refine xwp_go g1 [85] 100 _ _ _ _ ?_
      exact xri' (G := G) g2 rfl ⟨by rw [cost_all (Nat.le_refl _)], a, s, hr, rfl⟩
    rw [if_neg n0] at g2
    refine And.intro (fun h => ?_) (fun n0 => ?_)
    · rw [if_pos h] at g2
      exact xri' (G := G) g2 rfl ⟨by rw [hr.2.2.1.1], a, s, hr, rfl⟩
    rw [if_neg n0] at g2
    refine And.intro (fun h => ?_) (fun n0 => ?_)
    · rw [if_pos h] at g2
      exact xri' (G := G) g2 rfl ⟨by rw [hr.2.2.2.1.1], a, s, hr, rfl⟩
    rw [if_neg n0] at g2
    exact xri' (G := G) g2 rfl ⟨rfl, a, s, hr, rfl⟩
  · rw [if_pos (Bool.not_eq_false _ ▸ h)] at g2
    obtain ⟨k, hk1, hk2, rfl⟩ := inB_of (l := 11) (m := 16) (by decide) (by decide) (Bool.not_eq_false _ ▸ h)
    have e : nI k - 10 = nI (k - 10) := pk_sub (b := 10) (by omega)
    refine And.intro (by rw [e]; exact vp_in_nI (by omega) (by decide)) ?_
    exact xri' (G := G) g2 rfl ⟨by rw [e, nI_clamp (by omega), hr.2.1 (k - 10) (by omega) (by omega)], a, s, hr, rfl⟩
end
section
/-! groups of cells: the class grows sixteen times, the reference till nothing changes -/
theorem popL_mono {a b : Nat} (h : ∀ i, a.testBit i = true → b.testBit i = true) : ∀ k, popL a k ≤ popL b k
  | 0 => Nat.le_refl _
  | k + 1 => by
    have ih := popL_mono h k
    show popL a k + a / 2 ^ k % 2 ≤ popL b k + b / 2 ^ k % 2
    rw [bit_tb, bit_tb]
    have := h k
    cases ha : a.testBit k with
    | false => simp; omega
    | true => rw [this ha]; simp; exact ih
theorem popL_lt {a b : Nat} (h : ∀ i, a.testBit i = true → b.testBit i = true) {j : Nat} (ha : a.testBit j = false) (hb : b.testBit j = true) : ∀ k, j < k → popL a k < popL b k
  | 0, hj => by omega
  | k + 1, hj => by
    show popL a k + a / 2 ^ k % 2 < popL b k + b / 2 ^ k % 2
    rw [bit_tb, bit_tb]
    rcases (by omega : j < k ∨ j = k) with q | rfl
    · have ih := popL_lt h ha hb k q
      have := h k
      cases hak : a.testBit k with
      | false => simp; split <;> omega
      | true => rw [this hak]; simp; exact ih
    · have ih := popL_mono h j
      rw [ha, hb]
      simp
      omega
theorem sub_tb {a b : Nat} (h : a &&& b = a) (i : Nat) (hi : a.testBit i = true) : b.testBit i = true := by
  have : (a &&& b).testBit i = true := by rw [h]; exact hi
  rw [Nat.testBit_and] at this
  simp at this
  exact this.2
theorem pop_lt {a b : Nat} (hb : b < 65536) (h : a &&& b = a) (hne : a ≠ b) : pop a < pop b := by
  have : ∃ j, a.testBit j = false ∧ b.testBit j = true := by
    refine Classical.byContradiction (fun hc => hne (Nat.eq_of_testBit_eq (fun i => ?_)))
    cases ha : a.testBit i with
    | true => rw [sub_tb h i ha]
    | false =>
      cases hbi : b.testBit i with
      | false => rfl
      | true => exact absurd ⟨i, ha, hbi⟩ hc
  obtain ⟨j, h1, h2⟩ := this
  refine popL_lt (sub_tb h) h1 h2 16 ?_
  rcases Nat.lt_or_ge j 16 with q | q
  · exact q
  · rw [Nat.testBit_lt_two_pow (Nat.lt_of_lt_of_le hb (Nat.pow_le_pow_right (n := 2) (by decide) q))] at h2
    cases h2
theorem pop_pos {a : Nat} (ha : a < 65536) (h : a ≠ 0) : 0 < pop a := by
  have := pop_lt (a := 0) ha (Nat.zero_and a) (Ne.symm h)
  have e : pop 0 = 0 := by decide
  omega
/-- one growth -/
def growN (among g : Nat) : Nat := g ||| ((((g &&& 30583) * 2 ||| (g &&& 61166) / 2) ||| g * 16 ||| g / 16) &&& among)
def itN (among b : Nat) : Nat → Nat
  | 0 => b
  | k + 1 => growN among (itN among b k)
theorem growN_sub (among g : Nat) : g &&& growN among g = g := by
  apply Nat.eq_of_testBit_eq
  intro i
  unfold growN
  rw [Nat.testBit_and, Nat.testBit_or]
  cases g.testBit i <;> rfl
theorem growN_in {among g : Nat} (h : g &&& among = g) : growN among g &&& among = growN among g := by
  apply Nat.eq_of_testBit_eq
  intro i
  unfold growN
  have := sub_tb h i
  rw [Nat.testBit_and, Nat.testBit_or, Nat.testBit_and]
  cases hg : g.testBit i with
  | true => rw [this hg]; rfl
  | false =>
    cases among.testBit i <;> simp
theorem itN_in {among b : Nat} (h : b &&& among = b) : ∀ k, itN among b k &&& among = itN among b k
  | 0 => h
  | k + 1 => growN_in (itN_in h k)
theorem le_of_sub {a b : Nat} (h : a &&& b = a) : a ≤ b := by rw [← h]; exact Nat.and_le_right
theorem it_fix {among b : Nat} (hm : among < 65536) (h : b &&& among = b) (hb : b ≠ 0) : ∃ k, k < 16 ∧ growN among (itN among b k) = itN among b k := by
  have key : ∀ k, (∃ j, j < k ∧ growN among (itN among b j) = itN among b j) ∨ k + 1 ≤ pop (itN among b k) := by
    intro k
    induction k with
    | zero => exact Or.inr (pop_pos (Nat.lt_of_le_of_lt (le_of_sub h) hm) hb)
    | succ k ih =>
      rcases ih with ⟨j, hj, e⟩ | ih
      · exact Or.inl ⟨j, by omega, e⟩
      · by_cases e : growN among (itN among b k) = itN among b k
        · exact Or.inl ⟨k, by omega, e⟩
        · refine Or.inr ?_
          have := pop_lt (a := itN among b k) (b := growN among (itN among b k)) (Nat.lt_of_le_of_lt (le_of_sub (itN_in h (k + 1))) hm) (growN_sub _ _) (Ne.symm e)
          show k + 1 + 1 ≤ pop (growN among (itN among b k))
          omega
  rcases key 16 with h1 | h1
  · exact h1
  · have := pop_le (itN among b 16)
    omega
theorem it_stay {among b k : Nat} (h : growN among (itN among b k) = itN among b k) : ∀ n, itN among b (k + n) = itN among b k
  | 0 => rfl
  | n + 1 => by
    show growN among (itN among b (k + n)) = _
    rw [it_stay h n, h]
/-- the lowest bit -/
def lwN (l : Nat) : Nat := l &&& (4294967296 - l)
theorem lwI {l : Nat} (h0 : 0 < l) (h : l < 65536) : nI l &&& -(nI l) = nI (lwN l) := by
  have e : -(nI l) = nI (4294967296 - l) := by
    apply Int32.toBitVec_inj.mp
    rw [Int32.toBitVec_neg]
    apply BitVec.eq_of_toNat_eq
    rw [BitVec.toNat_neg]
    have h1 : (nI l).toBitVec.toNat = l := pk_tn (by omega)
    have h2 : (nI (4294967296 - l)).toBitVec.toNat = 4294967296 - l := pk_tn (by omega)
    rw [h1, h2]
    omega
  rw [e, fa_and]; rfl
theorem lwN_in (l : Nat) : lwN l &&& l = lwN l := by
  apply Nat.eq_of_testBit_eq
  intro i
  unfold lwN
  rw [Nat.testBit_and, Nat.testBit_and]
  cases l.testBit i <;> simp
theorem odd_part : ∀ l, 0 < l → ∃ k m, l = 2 ^ k * (2 * m + 1) := by
  intro l
  induction l using Nat.strongRecOn with
  | _ l ih =>
    intro h
    rcases (by omega : l % 2 = 1 ∨ l % 2 = 0) with q | q
    · exact ⟨0, l / 2, by omega⟩
    · obtain ⟨k, m, e⟩ := ih (l / 2) (by omega) (by omega)
      exact ⟨k + 1, m, by rw [Nat.pow_succ, Nat.mul_comm (2 ^ k) 2, Nat.mul_assoc, ← e]; omega⟩
theorem lwN_ne {l : Nat} (h0 : 0 < l) (h : l < 65536) : lwN l ≠ 0 := by
  obtain ⟨k, m, e⟩ := odd_part l h0
  have hk : k < 16 := by
    rcases Nat.lt_or_ge k 16 with q | q
    · exact q
    · have h1 : (2 : Nat) ^ 16 ≤ 2 ^ k := Nat.pow_le_pow_right (by decide) q
      have h2 : 2 ^ k * 1 ≤ 2 ^ k * (2 * m + 1) := Nat.mul_le_mul_left _ (by omega)
      omega
  have t1 : l.testBit k = true := by
    rw [Nat.testBit_eq_decide_div_mod_eq, e, Nat.mul_div_cancel_left _ (Nat.two_pow_pos k)]
    exact decide_eq_true (by omega)
  have t2 : (4294967296 - l).testBit k = true := by
    rw [Nat.testBit_eq_decide_div_mod_eq]
    have e2 : 4294967296 - l = 2 ^ k * (2 ^ (32 - k) - (2 * m + 1)) := by
      rw [Nat.mul_sub, ← Nat.pow_add, show k + (32 - k) = 32 by omega, ← e]
    rw [e2, Nat.mul_div_cancel_left _ (Nat.two_pow_pos k)]
    have h3 : 2 ^ (32 - k) = 2 * 2 ^ (31 - k) := by rw [← Nat.pow_succ']; congr 1; omega
    have h4 : 2 * m + 1 ≤ l := by rw [e]; exact Nat.le_mul_of_pos_left _ (Nat.two_pow_pos k)
    have h5 : (2 : Nat) ^ 16 ≤ 2 ^ (31 - k) := Nat.pow_le_pow_right (by decide) (by omega)
    simp
    omega
  intro z
  have : (lwN l).testBit k = true := by
    unfold lwN
    rw [Nat.testBit_and, t1, t2]; rfl
  rw [z, Nat.zero_testBit] at this
  cases this
/-- what is left when the group of the lowest cell is taken off; how many groups -/
def offN (l : Nat) : Nat := l ^^^ (l &&& itN l (lwN l) 16)
def grpN : Nat → Nat → Nat
  | 0, _ => 0
  | f + 1, l => if l = 0 then 0 else grpN f (offN l) + 1
theorem offN_pop {l : Nat} (h0 : 0 < l) (h : l < 65536) : pop (offN l) < pop l ∧ offN l < 65536 := by
  have hlt : offN l < 65536 := Nat.xor_lt_two_pow (n := 16) h (Nat.lt_of_le_of_lt Nat.and_le_left h)
  have tb : ∀ i, (offN l).testBit i = (l.testBit i && !(itN l (lwN l) 16).testBit i) := by
    intro i
    unfold offN
    rw [Nat.testBit_xor, Nat.testBit_and]
    cases l.testBit i <;> cases (itN l (lwN l) 16).testBit i <;> rfl
  refine ⟨pop_lt h ?_ ?_, hlt⟩
  · apply Nat.eq_of_testBit_eq
    intro i
    rw [Nat.testBit_and, tb i]
    cases l.testBit i <;> simp
  · intro e
    have hin : ∀ k i, (lwN l).testBit i = true → (itN l (lwN l) k).testBit i = true := by
      intro k
      induction k with
      | zero => exact fun i h => h
      | succ k ih => exact fun i h => sub_tb (growN_sub _ _) i (ih i h)
    have : ∃ i, (lwN l).testBit i = true := by
      refine Classical.byContradiction (fun hc => lwN_ne h0 h (Nat.eq_of_testBit_eq (fun i => ?_)))
      rw [Nat.zero_testBit]
      cases hb : (lwN l).testBit i with
      | false => rfl
      | true => exact absurd ⟨i, hb⟩ hc
    obtain ⟨i, hi⟩ := this
    have h1 := tb i
    rw [e, sub_tb (lwN_in l) i hi, hin 16 i hi] at h1
    cases h1
theorem grpN_le : ∀ f l, grpN f l ≤ f
  | 0, _ => Nat.le_refl _
  | f + 1, l => by
    show (if l = 0 then 0 else grpN f (offN l) + 1) ≤ f + 1
    have := grpN_le f (offN l)
    split <;> omega
theorem c_grown (d : Nat) (ws : xH) {b l : Nat} (hl : l < 65536) (hb : b &&& l = b) : xCt xMs (d + 1) nX0_grown [.int (nI b), .int (nI l)] ws (xRet (nI (itN l b 16)) ws) := by
  refine xS (M := mX0_grown) rfl rfl pX0_grown rfl (fun G g1 g2 g3 => ?_)
  refine xwp_go g1 [4] 100 _ _ _ _ ?_
  refine up (k := 16) (P := fun i => ∀ x y z, x = nI i → y = nI (itN l b i) → G 4 [some (.int (nI b)), some (.int (nI l)), some (.int y), some (.int x), z] [] ws) ?_ ?_ 0 (Nat.zero_le _) _ _ _ rfl rfl
  · intro x y z hx hy
    subst hx; subst hy
    refine xwp_go g1 [4] 100 _ _ _ _ ?_
    exact And.intro (fun h => xri (G := G) g2 rfl rfl rfl) (fun h => absurd (by decide) h)
  · intro i hi ih x y z hx hy
    subst hx; subst hy
    have hg : itN l b i < 65536 := Nat.lt_of_le_of_lt (le_of_sub (itN_in hb i)) hl
    refine xwp_go g1 [4] 100 _ _ _ _ ?_
    refine And.intro (fun h => absurd h (nI_ge (b := 16) hi (by decide))) (fun h => ?_)
    refine ih _ _ _ (nI_1 i) ?_
    show _ = nI (growN l (itN l b i))
    generalize itN l b i = g at hg
    have h1 : (g &&& 4294932343) < 65536 := Nat.lt_of_le_of_lt Nat.and_le_left hg
    have h2 : (g &&& 4294962926) < 65536 := Nat.lt_of_le_of_lt Nat.and_le_left hg
    have e1 : g &&& 4294932343 = g &&& 30583 := by
      apply Nat.eq_of_testBit_eq
      intro i
      rw [Nat.testBit_and, Nat.testBit_and]
      by_cases hi : i < 16
      · rw [show Nat.testBit 4294932343 i = Nat.testBit 30583 i from (by decide +kernel : ∀ i, i < 16 → Nat.testBit 4294932343 i = Nat.testBit 30583 i) i hi]
      · rw [Nat.testBit_lt_two_pow (Nat.lt_of_lt_of_le hg (Nat.pow_le_pow_right (n := 2) (by decide) (show 16 ≤ i by omega)))]
        rfl
    have e2 : g &&& 4294962926 = g &&& 61166 := by
      apply Nat.eq_of_testBit_eq
      intro i
      rw [Nat.testBit_and, Nat.testBit_and]
      by_cases hi : i < 16
      · rw [show Nat.testBit 4294962926 i = Nat.testBit 61166 i from (by decide +kernel : ∀ i, i < 16 → Nat.testBit 4294962926 i = Nat.testBit 61166 i) i hi]
      · rw [Nat.testBit_lt_two_pow (Nat.lt_of_lt_of_le hg (Nat.pow_le_pow_right (n := 2) (by decide) (show 16 ≤ i by omega)))]
        rfl
    rw [show ((-34953) : Int32) = nI 4294932343 from by decide, show ((-4370) : Int32) = nI 4294962926 from by decide, fa_and, fa_and,
      show nI (g &&& 4294932343) <<< ((1 : Int32) &&& 31) = nI ((g &&& 4294932343) * 2) from nI_shl (i := 1) (by decide) (by omega), show nI (g &&& 4294962926) >>> ((1 : Int32) &&& 31) = nI ((g &&& 4294962926) / 2) from nI_shr (i := 1) (by decide) (by omega), fa_or,
      show nI g <<< ((4 : Int32) &&& 31) = nI (g * 16) from nI_shl (i := 4) (by decide) (by omega), show nI g >>> ((4 : Int32) &&& 31) = nI (g / 16) from nI_shr (i := 4) (by decide) (by omega), fa_or, fa_or, fa_and, fa_or, e1, e2]
    rfl
theorem c_groups (d : Nat) (ws : xH) {l : Nat} (hl : l < 65536) : xCt xMs (d + 2) nX0_groups [.int (nI l)] ws (xRet (nI (grpN 16 l)) ws) := by
  refine xS (M := mX0_groups) rfl rfl pX0_groups rfl (fun G g1 g2 g3 => ?_)
  refine xwp_go g1 [4] 100 _ _ _ _ ?_
  refine up (k := 16) (P := fun i => ∀ x y m, x = nI i → y = nI m → m < 65536 → grpN 16 l = i + grpN (16 - i) m → G 4 [some (.int (nI l)), some (.int y), some (.int x)] [] ws) ?_ ?_ 0 (Nat.zero_le _) _ _ l rfl rfl hl (by rw [Nat.zero_add])
  · intro x y m hx hy hm he
    subst hx; subst hy
    have he : grpN 16 l = 16 := he
    refine xwp_go g1 [4] 100 _ _ _ _ ?_
    refine And.intro (fun h => xri (G := G) g2 rfl (by rw [he]) rfl) (fun h => ?_)
    exact And.intro (fun h => xri (G := G) g2 rfl (by rw [he]) rfl) (fun h => absurd (by decide) h)
  · intro i hi ih x y m hx hy hm he
    subst hx; subst hy
    have es : grpN (16 - i) m = if m = 0 then 0 else grpN (16 - (i + 1)) (offN m) + 1 := by
      rw [show 16 - i = (16 - (i + 1)) + 1 by omega]; rfl
    refine xwp_go g1 [4] 100 _ _ _ _ ?_
    refine And.intro (fun h => ?_) (fun h => ?_) <;> rw [show (0 : Int32) = nI 0 from rfl, nI_eq (by omega) (by decide)] at h
    · rw [es, if_pos h] at he
      exact xri (G := G) g2 rfl (by rw [he]; rfl) rfl
    · rw [es, if_neg h] at he
      refine And.intro (fun h => absurd h (nI_ge (b := 16) hi (by decide))) (fun _ => ?_)
      refine xcallR (G := G) g3 [] (ag2 (lwI (by omega) hm) rfl (c_grown d [] hm (lwN_in m))) ?_
      refine xwp_go g1 [4] 100 _ _ _ _ ?_
      have e := nI_andn m (itN m (lwN m) 16)
      exact ih _ _ (offN m) (nI_1 i) e (offN_pop (by omega) hm).2 (by omega)
theorem m_groups (d : Nat) (ws : xH) {l : Nat} (hl : l < 65536) : xCt xMs (d + 1) nX6_groups [.int (nI l)] ws (xRet (nI (grpN 16 l)) ws) := by
  refine xS (M := mX6_groups) rfl rfl pX6_groups rfl (fun G g1 g2 g3 => ?_)
  refine xwp_go g1 [4] 100 _ _ _ _ ?_
  have outer : ∀ f m n x y z3 z4 z5, m < 65536 → pop m ≤ f → f ≤ 16 → n ≤ 16 → y = nI m → x = nI n → grpN 16 l = n + grpN f m → G 4 [some (.int (nI l)), some (.int x), some (.int y), z3, z4, z5] [] ws := by
    intro f
    induction f with
    | zero =>
      intro m n x y z3 z4 z5 hm hp hf hn hy hx he
      subst hy; subst hx
      have hm0 : m = 0 := Classical.byContradiction (fun hc => by have := pop_pos hm hc; omega)
      subst hm0
      refine xwp_go g1 [4] 100 _ _ _ _ ?_
      exact And.intro (fun h => xri (G := G) g2 rfl (by rw [he]; rfl) rfl) (fun h => absurd rfl h)
    | succ f ih =>
      intro m n x y z3 z4 z5 hm hp hf hn hy hx he
      subst hy; subst hx
      have es : grpN (f + 1) m = if m = 0 then 0 else grpN f (offN m) + 1 := rfl
      refine xwp_go g1 [16] 100 _ _ _ _ ?_
      refine And.intro (fun h => ?_) (fun h => ?_) <;> rw [show (0 : Int32) = nI 0 from rfl, nI_eq (by omega) (by decide)] at h
      · rw [es, if_pos h] at he
        exact xri (G := G) g2 rfl (by rw [he]; rfl) rfl
      · rw [es, if_neg h] at he
        have hin := lwN_in m
        have hit : ∀ k, itN m (lwN m) k < 65536 := fun k => Nat.lt_of_le_of_lt (le_of_sub (itN_in hin k)) hm
        obtain ⟨k0, hk0, hfix⟩ := it_fix hm hin (lwN_ne (by omega) hm)
        have h16 : itN m (lwN m) 16 = itN m (lwN m) k0 := by
          have := it_stay hfix (16 - k0)
          rw [show k0 + (16 - k0) = 16 by omega] at this
          exact this
        obtain ⟨hpop, hlt⟩ := offN_pop (by omega) hm
        have leave : ∀ w u : Int32, u = nI (itN m (lwN m) 16) → ∀ z, G 59 [some (.int (nI l)), some (.int (nI n)), some (.int (nI m)), some (.int u), some (.int w), z] [] ws := by
          intro w u hu z
          subst hu
          refine xwp_go g1 [4] 100 _ _ _ _ ?_
          exact ih (offN m) (n + 1) _ _ _ _ _ hlt (by omega) (by omega) (by have := grpN_le 16 l; omega) (nI_andn m (itN m (lwN m) 16)) (nI_1 n) (by omega)
        have inner : ∀ i, i ≤ 17 → ∀ w u z, u = nI (itN m (lwN m) i) → ((i = 0 ∧ w = 0) ∨ (1 ≤ i ∧ w = nI (itN m (lwN m) (i - 1)))) → G 16 [some (.int (nI l)), some (.int (nI n)), some (.int (nI m)), some (.int u), some (.int w), z] [] ws := by
          refine up (k := 17) (P := fun i => ∀ w u z, u = nI (itN m (lwN m) i) → ((i = 0 ∧ w = 0) ∨ (1 ≤ i ∧ w = nI (itN m (lwN m) (i - 1)))) → G 16 [some (.int (nI l)), some (.int (nI n)), some (.int (nI m)), some (.int u), some (.int w), z] [] ws) ?_ ?_
          · intro w u z hu hw
            subst hu
            rcases hw with ⟨h1, -⟩ | ⟨-, rfl⟩
            · omega
            · have h17 : itN m (lwN m) 17 = itN m (lwN m) 16 := by
                have := it_stay hfix (17 - k0)
                rw [show k0 + (17 - k0) = 17 by omega] at this
                rw [this, h16]
              refine xwp_go g1 [16, 59] 100 _ _ _ _ ?_
              refine And.intro (fun h => leave _ _ (by rw [h17]) _) (fun h => absurd (by rw [h17]) h)
          · intro i hi ihi w u z hu hw
            subst hu
            refine xwp_go g1 [16, 59] 100 _ _ _ _ ?_
            refine And.intro (fun h => ?_) (fun h => ?_)
            · refine leave _ _ ?_ _
              rcases hw with ⟨rfl, rfl⟩ | ⟨h1, rfl⟩
              · have := hit 0
                have h2 : (0 : Nat) = itN m (lwN m) 0 := (nI_eq (by decide) (by omega)).mp h
                exact absurd h2.symm (lwN_ne (by omega) hm)
              · have := hit i
                have := hit (i - 1)
                have h2 : itN m (lwN m) (i - 1) = itN m (lwN m) i := (nI_eq (by omega) (by omega)).mp h
                have h3 : growN m (itN m (lwN m) (i - 1)) = itN m (lwN m) (i - 1) := by
                  rw [h2]
                  have : itN m (lwN m) i = growN m (itN m (lwN m) (i - 1)) := by
                    conv => lhs; rw [show i = (i - 1) + 1 by omega]
                    rfl
                  rw [← h2, ← this, h2]
                have h4 := it_stay h3 (17 - i)
                rw [show i - 1 + (17 - i) = 16 by omega, h2] at h4
                rw [h4]
            · refine ihi _ _ _ ?_ (Or.inr ⟨by omega, rfl⟩)
              show _ = nI (growN m (itN m (lwN m) i))
              have hg := hit i
              generalize itN m (lwN m) i = g at hg
              have b1 : (g &&& 30583) < 65536 := Nat.lt_of_le_of_lt Nat.and_le_left hg
              have b2 : (g &&& 61166) < 65536 := Nat.lt_of_le_of_lt Nat.and_le_left hg
              rw [show (30583 : Int32) = nI 30583 from rfl, show (61166 : Int32) = nI 61166 from rfl, fa_and, fa_and,
                show nI (g &&& 30583) <<< ((1 : Int32) &&& 31) = nI ((g &&& 30583) * 2) from nI_shl (i := 1) (by decide) (by omega), show nI (g &&& 61166) >>> ((1 : Int32) &&& 31) = nI ((g &&& 61166) / 2) from nI_shr (i := 1) (by decide) (by omega),
                show nI g <<< ((4 : Int32) &&& 31) = nI (g * 16) from nI_shl (i := 4) (by decide) (by omega), show nI g >>> ((4 : Int32) &&& 31) = nI (g / 16) from nI_shr (i := 4) (by decide) (by omega), fa_or, fa_or, fa_or, fa_and, fa_or]
              refine congrArg nI ?_
              unfold growN
              apply Nat.eq_of_testBit_eq
              intro i
              simp only [Nat.testBit_or, Nat.testBit_and]
              cases (g * 16).testBit i <;> cases (g / 16).testBit i <;> cases ((g &&& 30583) * 2).testBit i <;> cases ((g &&& 61166) / 2).testBit i <;> simp
        exact inner 0 (by decide) _ _ _ (lwI (by omega) hm) (Or.inl ⟨rfl, rfl⟩)
  exact outer 16 l 0 _ _ _ _ _ hl (pop_le l) (by decide) (by decide) rfl rfl (by rw [Nat.zero_add])
end
section
/-! gaps, nearest, who, dust: what they answer; the reference's -/
def spGaps (S : SG) (p w : Int32) : Int32 × SG := if inB w 0 1 = false then rfs S (-2) else if ¬ bndI p 0 65535 = 0 then rfs S (bndI p 0 65535) else (if w = 0 then nI (16 - pop p.toNatClampNeg) else nI (grpN 16 (notN p.toNatClampNeg)), S)
def spNearest (S : SG) (p w : Int32) : Int32 × SG := if inB w 0 1 = false then rfs S (-2) else if ¬ bndI p 0 65535 = 0 then rfs S (bndI p 0 65535) else
  (if (nearL S.1 p.toNatClampNeg (S.1 6 1)).1 = 0 then -9 else if w = 0 then nI ((nearL S.1 p.toNatClampNeg (S.1 6 1)).1 - 1) else nI (nearL S.1 p.toNatClampNeg (S.1 6 1)).2, S)
def whoL (q : LQ) (set p : Nat) : Nat → Nat × Nat
  | 0 => (0, 0)
  | i + 1 => if set.testBit i then ((if crackL (laidQ q (clr set i) 0) (onQ q i) p 16 = 0 then (whoL q set p i).1 else (whoL q set p i).1 ||| 2 ^ i), (whoL q set p i).2 + crackL (laidQ q (clr set i) 0) (onQ q i) p 16) else whoL q set p i
def spWho (S : SG) (x p w : Int32) : Int32 × SG := if ¬ askI (S.1 6 0) x p w 1 = 0 then rfs S (askI (S.1 6 0) x p w 1) else
  (if laidQ S.1 x.toNatClampNeg 0 = p.toNatClampNeg then 0 else if w = 0 then nI (whoL S.1 x.toNatClampNeg p.toNatClampNeg (S.1 6 0)).1 else nI (whoL S.1 x.toNatClampNeg p.toNatClampNeg (S.1 6 0)).2, S)
theorem m_gaps (d : Nat) {S : SG} {a : Nat → Nat → Int32} {s : Nat → Int32} (hr : relM S a s) (p w : Int32) : xCt xMs (d + 2) nX6_gaps [.ref 0, .int p, .int w] (eM a s) (pMs (spGaps S p w)) := by
  refine xV (M := mX6_gaps) rfl rfl rfl rfl rfl pX6_gaps rfl (fun G g1 g2 g3 => ?_)
  unfold spGaps at g2
  refine xwp_go g1 [] 100 _ _ _ _ ?_
  refine xcallR (G := G) g3 [] (m_isIn d [] w 0 1) ?_
  refine xwp_go g1 [] 100 _ _ _ _ ?_
  refine And.intro (fun h => ?_) (fun h => ?_) <;> rw [bI_0] at h
  · rw [if_neg h] at g2
    refine xcallR (G := G) g3 [] (m_bound d [] p 0 65535) ?_
    refine xwp_go g1 [] 100 _ _ _ _ ?_
    refine And.intro (fun h' => ?_) (fun h' => ?_)
    · rw [if_neg (fun z => z h')] at g2
      obtain ⟨m, -, hm, rfl⟩ := bnd_0 (l := 0) (m := 65535) (by decide) (by decide) h'
      rw [nI_clamp (by omega)] at g2
      refine And.intro (fun h2 => ?_) (fun h2 => ?_)
      · rw [if_neg h2] at g2
        have e : (65535 : Int32) &&& (nI m ^^^ (-1)) = nI (notN m) := by rw [show (65535 : Int32) = nI 65535 from rfl, nI_andn]; rfl
        refine xcallR (G := G) g3 [] (ag1 e (m_groups d [] (notN_lt m))) ?_
        refine xwp_go g1 [] 100 _ _ _ _ ?_
        exact xri' (G := G) g2 rfl ⟨rfl, a, s, hr, rfl⟩
      · rw [if_pos h2] at g2
        refine xcallR (G := G) g3 [] (m_bits d [] (p := m) (by omega)) ?_
        refine xwp_go g1 [] 100 _ _ _ _ ?_
        exact xri' (G := G) g2 rfl ⟨by rw [show (16 : Int32) = nI 16 from rfl, pk_sub (pop_le m)], a, s, hr, rfl⟩
    · rw [if_pos h'] at g2
      refine xcMW (G := G) g3 (m_no d a s (bnd_k h').1 (bnd_k h').2) ?_
      refine xwp_go g1 [] 100 _ _ _ _ ?_
      exact xri' (G := G) g2 rfl ⟨rfl, _, s, relM_no hr, rfl⟩
  · rw [if_pos h] at g2
    refine xcMW (G := G) g3 (m_no d a s (why := -2) (k := 2) (by decide) (by decide)) ?_
    refine xwp_go g1 [] 100 _ _ _ _ ?_
    exact xri' (G := G) g2 rfl ⟨rfl, _, s, relM_no (k := 2) hr, rfl⟩
theorem m_nearest (d : Nat) {S : SG} {a : Nat → Nat → Int32} {s : Nat → Int32} (hr : relM S a s) (p w : Int32) : xCt xMs (d + 2) nX6_nearest [.ref 0, .int p, .int w] (eM a s) (pMs (spNearest S p w)) := by
  obtain ⟨hok, hA, hW, h0, h1, h2⟩ := hr.1
  have h6 := hok.2.1
  refine xV (M := mX6_nearest) rfl rfl rfl rfl rfl pX6_nearest rfl (fun G g1 g2 g3 => ?_)
  unfold spNearest at g2
  refine xwp_go g1 [] 100 _ _ _ _ ?_
  refine xcallR (G := G) g3 [] (m_isIn d [] w 0 1) ?_
  refine xwp_go g1 [] 100 _ _ _ _ ?_
  refine And.intro (fun h => ?_) (fun h => ?_) <;> rw [bI_0] at h
  · rw [if_neg h] at g2
    refine xcallR (G := G) g3 [] (m_bound d [] p 0 65535) ?_
    refine xwp_go g1 [45] 100 _ _ _ _ ?_
    refine And.intro (fun h' => ?_) (fun h' => ?_)
    · rw [if_neg (fun z => z h')] at g2
      obtain ⟨m, -, hm, rfl⟩ := bnd_0 (l := 0) (m := 65535) (by decide) (by decide) h'
      rw [nI_clamp (by omega)] at g2
      refine up (k := S.1 6 1) (P := fun i => ∀ x y z u, x = nI i → (y = if (nearL S.1 m i).1 = 0 then -9 else nI ((nearL S.1 m i).1 - 1)) → (z = if (nearL S.1 m i).1 = 0 then -9 else nI (nearL S.1 m i).2) → G 45 [some (.ref 0), some (.int (nI m)), some (.int w), some (.int (bndI (nI m) 0 65535)), some (.int y), some (.int z), some (.int x), u] [] (eM a s)) ?_ ?_ 0 (Nat.zero_le _) _ _ _ _ rfl rfl rfl
      · intro x y z u hx hy hz
        subst hx
        refine xwp_go g1 [45] 100 _ _ _ _ ?_
        refine And.intro (fun h3 => ?_) (fun h3 => ?_)
        · refine And.intro (fun h4 => ?_) (fun h4 => ?_)
          · rw [if_neg h4] at g2
            exact xri' (G := G) g2 rfl ⟨by rw [hz], a, s, hr, rfl⟩
          · rw [if_pos h4] at g2
            exact xri' (G := G) g2 rfl ⟨by rw [hy], a, s, hr, rfl⟩
        · rw [h1] at h3
          exact absurd (nI_le (Nat.le_refl _) (by omega)) h3
      · intro i hi ih x y z u hx hy hz
        subst hx
        have hb := hok.2.2.2.2.2 i hi
        have hx : S.1 5 i ^^^ m < 65536 := Nat.xor_lt_two_pow (n := 16) hb (by omega)
        have l1 := pop_le (S.1 5 i ^^^ m)
        have l2 := nearL_le S.1 m i
        have es : nearL S.1 m (i + 1) = if pop (S.1 5 i ^^^ m) < (nearL S.1 m i).2 then (i + 1, pop (S.1 5 i ^^^ m)) else nearL S.1 m i := rfl
        have e0 : ∀ i, (nearL S.1 m i).1 = 0 → (nearL S.1 m i).2 = 17 := by
          intro i
          induction i with
          | zero => intro _; rfl
          | succ i ih =>
            intro hz
            have es : nearL S.1 m (i + 1) = if pop (S.1 5 i ^^^ m) < (nearL S.1 m i).2 then (i + 1, pop (S.1 5 i ^^^ m)) else nearL S.1 m i := rfl
            rw [es] at hz ⊢
            split at hz
            · exact absurd hz (Nat.succ_ne_zero _)
            · next hn => rw [if_neg hn]; exact ih hz
        refine xwp_go g1 [45] 100 _ _ _ _ ?_
        refine And.intro (fun h3 => ?_) (fun h3 => ?_)
        · rw [h1] at h3
          exact absurd h3 (nI_ge hi (by omega))
        · refine And.intro (vp_in_nI (by omega) (by decide)) ?_
          have e : a 5 (nI i).toNatClampNeg ^^^ nI m = nI (S.1 5 i ^^^ m) := by rw [nI_clamp (by omega), hW i hi, fb_xorI]
          refine xcallR (G := G) g3 [] (ag1 e (m_bits d [] hx)) ?_
          refine xwp_go g1 [45] 100 _ _ _ _ ?_
          refine And.intro (fun h4 => ?_) (fun h4 => ?_)
          · -- none yet
            have hk : (nearL S.1 m i).1 = 0 := Classical.byContradiction (fun hc => by
              rw [hy, if_neg hc] at h4
              exact absurd h4 (nI_pos (by omega)))
            have h17 := e0 i hk
            have et : nearL S.1 m (i + 1) = (i + 1, pop (S.1 5 i ^^^ m)) := by rw [es, if_pos (by omega)]
            refine ih _ _ _ _ (nI_1 i) ?_ ?_
            · rw [et]
              show _ = if i + 1 = 0 then -9 else nI (i + 1 - 1)
              rw [if_neg (Nat.succ_ne_zero i)]; rfl
            · rw [et]
              show _ = if i + 1 = 0 then -9 else nI (pop (S.1 5 i ^^^ m))
              rw [if_neg (Nat.succ_ne_zero i)]
          · have hk : ¬ (nearL S.1 m i).1 = 0 := fun hc => h4 (by rw [hy, if_pos hc]; decide)
            refine And.intro (fun h5 => ?_) (fun h5 => ?_) <;> rw [hz, if_neg hk, nI_ltI (by omega) (by omega)] at h5
            · have et : nearL S.1 m (i + 1) = (i + 1, pop (S.1 5 i ^^^ m)) := by rw [es, if_pos h5]
              refine ih _ _ _ _ (nI_1 i) ?_ ?_
              · rw [et]
                show _ = if i + 1 = 0 then -9 else nI (i + 1 - 1)
                rw [if_neg (Nat.succ_ne_zero i)]; rfl
              · rw [et]
                show _ = if i + 1 = 0 then -9 else nI (pop (S.1 5 i ^^^ m))
                rw [if_neg (Nat.succ_ne_zero i)]
            · exact ih _ _ _ _ (nI_1 i) (by rw [es, if_neg h5]; exact hy) (by rw [es, if_neg h5]; exact hz)
    · rw [if_pos h'] at g2
      refine xcMW (G := G) g3 (m_no d a s (bnd_k h').1 (bnd_k h').2) ?_
      refine xwp_go g1 [] 100 _ _ _ _ ?_
      exact xri' (G := G) g2 rfl ⟨rfl, _, s, relM_no hr, rfl⟩
  · rw [if_pos h] at g2
    refine xcMW (G := G) g3 (m_no d a s (why := -2) (k := 2) (by decide) (by decide)) ?_
    refine xwp_go g1 [] 100 _ _ _ _ ?_
    exact xri' (G := G) g2 rfl ⟨rfl, _, s, relM_no (k := 2) hr, rfl⟩
theorem m_who (d : Nat) {S : SG} {a : Nat → Nat → Int32} {s : Nat → Int32} (hr : relM S a s) (x p w : Int32) : xCt xMs (d + 4) nX6_who [.ref 0, .int x, .int p, .int w] (eM a s) (pMs (spWho S x p w)) := by
  have hl := lt256 hr.1.1
  have h0 := hr.1.2.2.2.1
  have h8 := hr.1.1.1
  refine xV (M := mX6_who) rfl rfl rfl rfl rfl pX6_who rfl (fun G g1 g2 g3 => ?_)
  unfold spWho at g2
  refine xwp_go g1 [] 100 _ _ _ _ ?_
  refine xcM (G := G) g3 (m_notAsked (d + 1) hr.1 x p w 1) ?_
  refine xwp_go g1 [31] 100 _ _ _ _ ?_
  refine And.intro (fun h => ?_) (fun h => ?_)
  · rw [if_neg (fun z => z h)] at g2
    generalize hwhy : askI (S.1 6 0) x p w 1 = why at *
    obtain ⟨⟨m, hm, rfl⟩, ⟨k, hk, rfl⟩, ⟨o, ho, rfl⟩⟩ := ask_0 (m := 1) (by decide) (hwhy.trans h)
    rw [nI_clamp (by omega), nI_clamp (by omega)] at g2
    have hla := laidQ_lt hr.1.1 m 0
    by_cases hsame : laidQ S.1 m 0 = o
    · rw [if_pos hsame] at g2
      refine xwp_go g1 [] 100 _ _ _ _ ?_
      refine And.intro (fun _ => ?_) (fun _ => ?_)
      · exact And.intro (fun _ => xri' (G := G) g2 rfl ⟨rfl, a, s, hr, rfl⟩) (fun _ => xri' (G := G) g2 rfl ⟨rfl, a, s, hr, rfl⟩)
      · refine xcM (G := G) g3 (m_laid d hr.1 (set := m) (over := 0) (by omega) (by decide)) ?_
        refine xwp_go g1 [] 100 _ _ _ _ ?_
        refine And.intro (fun _ => ?_) (fun h' => absurd (by rw [hsame]) h')
        exact And.intro (fun _ => xri' (G := G) g2 rfl ⟨rfl, a, s, hr, rfl⟩) (fun _ => xri' (G := G) g2 rfl ⟨rfl, a, s, hr, rfl⟩)
    · rw [if_neg hsame] at g2
      refine up (k := S.1 6 0) (P := fun i => ∀ x y z u8 u9 u10, x = nI i → y = nI (whoL S.1 m o i).1 → z = nI (whoL S.1 m o i).2 → G 31 [some (.ref 0), some (.int (nI m)), some (.int (nI o)), some (.int (nI k)), some (.int why), some (.int y), some (.int z), some (.int x), u8, u9, u10] [] (eM a s)) ?_ ?_ 0 (Nat.zero_le _) _ _ _ _ _ _ rfl rfl rfl
      · intro x y z u8 u9 u10 hx hy hz
        subst hx; subst hy; subst hz
        refine xwp_go g1 [31] 100 _ _ _ _ ?_
        refine And.intro (fun _ => ?_) (fun h3 => ?_)
        · refine And.intro (fun h4 => ?_) (fun h4 => ?_)
          · rw [if_neg h4] at g2
            exact xri' (G := G) g2 rfl ⟨rfl, a, s, hr, rfl⟩
          · rw [if_pos h4] at g2
            exact xri' (G := G) g2 rfl ⟨rfl, a, s, hr, rfl⟩
        · rw [h0] at h3
          exact absurd (nI_le (Nat.le_refl _) (by omega)) h3
      · intro i hi ih x y z u8 u9 u10 hx hy hz
        subst hx; subst hy; subst hz
        refine xwp_go g1 [31] 100 _ _ _ _ ?_
        refine And.intro (fun h3 => ?_) (fun _ => ?_)
        · rw [h0] at h3
          exact absurd h3 (nI_ge hi (by omega))
        refine xcM (G := G) g3 (m_laid d hr.1 (set := m) (over := 0) (by omega) (by decide)) ?_
        refine xwp_go g1 [31] 100 _ _ _ _ ?_
        refine And.intro (fun h3 => ?_) (fun _ => ?_)
        · rw [nI_eq (by omega) (by omega)] at h3
          exact absurd h3 hsame
        refine And.intro (fun h3 => ?_) (fun h3 => ?_) <;> rw [nI_bit0 (by omega) (by omega)] at h3
        · rw [Bool.not_eq_false] at h3
          have ec : nI m &&& ((1 : Int32) <<< (nI i &&& 31) ^^^ (-1)) = nI (clr m i) := by rw [nI_pow (by omega), nI_andn]; rfl
          refine xcM (G := G) g3 (agr2 ec rfl (m_laid d hr.1 (set := clr m i) (over := 0) (clr_lt (n := 31) (by omega)) (by decide))) ?_
          refine xwp_go g1 [31] 100 _ _ _ _ ?_
          refine xcM (G := G) g3 (m_onSlide (d + 1) hr.1 hi) ?_
          have hon := onQ_lt hr.1.1 hi
          have hot := laidQ_lt hr.1.1 (clr m i) 0
          have es : whoL S.1 m o (i + 1) = ((if crackL (laidQ S.1 (clr m i) 0) (onQ S.1 i) o 16 = 0 then (whoL S.1 m o i).1 else (whoL S.1 m o i).1 ||| 2 ^ i), (whoL S.1 m o i).2 + crackL (laidQ S.1 (clr m i) 0) (onQ S.1 i) o 16) := by
            show (if m.testBit i then _ else _) = _
            rw [if_pos h3]
          generalize hcr : crackL (laidQ S.1 (clr m i) 0) (onQ S.1 i) o = cr at es
          generalize laidQ S.1 (clr m i) 0 = others at hot hcr
          generalize onQ S.1 i = on at hon hcr
          have cs : ∀ c, cr (c + 1) = cr c + (if on.testBit c ∧ others ||| clr on c = o then 1 else 0) := fun c => by rw [← hcr]; rfl
          have c0 : cr 0 = 0 := by rw [← hcr]; rfl
          refine xwp_go g1 [31, 88] 100 _ _ _ _ ?_
          refine up (k := 16) (P := fun c => ∀ x y z, x = nI c → y = nI (if cr c = 0 then (whoL S.1 m o i).1 else (whoL S.1 m o i).1 ||| 2 ^ i) → z = nI ((whoL S.1 m o i).2 + cr c) → G 88 [some (.ref 0), some (.int (nI m)), some (.int (nI o)), some (.int (nI k)), some (.int why), some (.int y), some (.int z), some (.int (nI i)), some (.int (nI others)), some (.int (nI on)), some (.int x)] [] (eM a s)) ?_ ?_ 0 (Nat.zero_le _) _ _ _ rfl (by rw [c0]; rfl) (by rw [c0]; rfl)
          · intro x y z hx hy hz
            subst hx; subst hy; subst hz
            refine xwp_go g1 [31, 88] 100 _ _ _ _ ?_
            refine And.intro (fun _ => ?_) (fun h4 => absurd (by decide) h4)
            exact ih _ _ _ _ _ _ (nI_1 i) (by rw [es]) (by rw [es])
          · intro c hc ihc x y z hx hy hz
            subst hx; subst hy; subst hz
            refine xwp_go g1 [31, 88] 100 _ _ _ _ ?_
            refine And.intro (fun h4 => absurd h4 (nI_ge (b := 16) hc (by decide))) (fun _ => ?_)
            refine And.intro (fun h4 => ?_) (fun h4 => ?_) <;> rw [nI_bit0 (by omega) (by omega)] at h4
            · have : cr (c + 1) = cr c := by rw [cs, if_neg (by rw [h4]; exact fun z => by cases z.1)]; rfl
              exact ihc _ _ _ (nI_1 c) (by rw [this]) (by rw [this])
            · rw [Bool.not_eq_false] at h4
              have hcl : others ||| clr on c < 65536 := Nat.or_lt_two_pow (n := 16) hot (clr_lt (n := 16) hon)
              have ep : nI others ||| nI on &&& ((1 : Int32) <<< (nI c &&& 31) ^^^ (-1)) = nI (others ||| clr on c) := by rw [nI_pow (by omega), nI_andn, fa_or]; rfl
              refine And.intro (fun h5 => ?_) (fun h5 => ?_) <;> rw [ep, nI_eq (by omega) (by omega)] at h5
              · have : cr (c + 1) = cr c + 1 := by rw [cs, if_pos ⟨h4, h5⟩]
                refine ihc _ _ _ (nI_1 c) ?_ (by rw [this, nI_1]; rfl)
                rw [nI_pow (by omega), fa_or, this, if_neg (Nat.succ_ne_zero _)]
                refine congrArg nI ?_
                split
                · rfl
                · rw [Nat.or_assoc, Nat.or_self]
              · have : cr (c + 1) = cr c := by rw [cs, if_neg (fun z => h5 z.2)]; rfl
                exact ihc _ _ _ (nI_1 c) (by rw [this]) (by rw [this])
        · have es : whoL S.1 m o (i + 1) = whoL S.1 m o i := by
            show (if m.testBit i then _ else _) = _
            rw [if_neg (by rw [h3]; decide)]
          exact ih _ _ _ _ _ _ (nI_1 i) (by rw [es]) (by rw [es])
  · rw [if_pos h] at g2
    refine xcMW (G := G) g3 (m_no (d + 2) a s (ask_k h).1 (ask_k h).2) ?_
    refine xwp_go g1 [] 100 _ _ _ _ ?_
    exact xri' (G := G) g2 rfl ⟨rfl, _, s, relM_no hr, rfl⟩
end
section
/-! dust: the reference's; a common spec of both -/
def upN (t c : Nat) : Nat := (10 - t) ^ c
def dustN (t part c : Nat) : Nat := (if part = 0 then (10 - t) ^ c else 10 ^ c) / Nat.gcd ((10 - t) ^ c) (10 ^ c)
/-- answers that are long -/
def pMl (x : Int64 × SG) : xPost := fun v w => v = some (.long x.1) ∧ ∃ a s, relM x.2 a s ∧ w = eM a s
def rfl8 (S : SG) (w : Int32) : Int64 × SG := (4000000000000000000 - w.toInt64, refu S (refK w))
def spDust (S : SG) (x t p : Int32) : Int64 × SG := if setB (S.1 6 0) x = false then rfl8 S (-1) else if inB p 0 1 = false then rfl8 S (-2) else if ¬ bndI t 0 9 = 0 then rfl8 S (bndI t 0 9) else (lN (dustN t.toNatClampNeg p.toNatClampNeg (16 - pop (laidQ S.1 x.toNatClampNeg 0))), S)
theorem xrl' {tb : xT} {G : xK} {Post : xPost} {pc n : Nat} {an : List (Int32 × Nat)} {j : Int64} {loc : xL} {ws : xH} {x : Int64} (g2 : xG2 tb (some .long) Post G) (hi : xlk tb pc = some (.lreturn, n, an, j)) (hp : Post (some (.long x)) ws) : G pc loc [.long x] ws := g2.2.1 _ _ _ _ _ _ _ hi rfl hp
theorem m_divisor (d : Nat) (ws : xH) {x y : Nat} (hx : x < 2 ^ 63) (hy : y < 2 ^ 63) : xCt xMs (d + 1) nX6_divisor [.long (lN x), .long (lN y)] ws (xRetL (lN (Nat.gcd x y)) ws) := by
  refine xS (M := mX6_divisor) rfl rfl pX6_divisor rfl (fun G g1 g2 g3 => ?_)
  refine xwp_go g1 [6] 100 _ _ _ _ ?_
  have loop : ∀ b a z, a < 2 ^ 63 → b < 2 ^ 63 → Nat.gcd a b = Nat.gcd x y → G 6 [some (.long (lN x)), none, some (.long (lN y)), none, some (.long (lN a)), none, some (.long (lN b)), none, z, none] [] ws := by
    intro b
    induction b using Nat.strongRecOn with
    | _ b ih =>
      intro a z ha hb he
      refine xwp_go g1 [6] 100 _ _ _ _ ?_
      refine And.intro (fun h => ?_) (fun h => ?_) <;> rw [lg_cmp_eq, show (0 : Int64) = lN 0 from rfl, pk_lEQ hb (by decide)] at h
      · refine xrl (G := G) g2 rfl ?_ rfl
        rw [h, Nat.gcd_zero_right] at he
        rw [he]
      · refine And.intro (fun h2 => h ((pk_lEQ hb (by decide)).mp h2)) ?_
        rw [pk_lRem ha (by omega) hb]
        have hlt : a % b < b := Nat.mod_lt _ (by omega)
        exact ih (a % b) hlt b _ hb (by omega) (by rw [← he, Nat.gcd_comm a b, Nat.gcd_rec b a, Nat.gcd_comm])
  exact loop y x _ hx hy rfl
theorem m_dust (d : Nat) {S : SG} {a : Nat → Nat → Int32} {s : Nat → Int32} (hr : relM S a s) (x t p : Int32) : xCt xMs (d + 4) nX6_dust [.ref 0, .int x, .int t, .int p] (eM a s) (pMl (spDust S x t p)) := by
  have hl := lt256 hr.1.1
  refine xV (M := mX6_dust) rfl rfl rfl rfl rfl pX6_dust rfl (fun G g1 g2 g3 => ?_)
  unfold spDust at g2
  refine xwp_go g1 [] 100 _ _ _ _ ?_
  refine xcM (G := G) g3 (m_areSlides (d + 2) hr.1 x) ?_
  refine xwp_go g1 [] 100 _ _ _ _ ?_
  have low : ∀ {why : Int32} {k : Nat} {pc : Nat} {loc : xL} {n x : Nat} {v0 : Int32} {j : Int64}, k < 7 → -why = nI k → k = refK why → xG2 mX6_dust.2.2.2.2.1 mX6_dust.2.2.2.1 (pMl (rfl8 S why)) G → xlk mX6_dust.2.2.2.2.1 pc = some (.invokevirtual x, n, [(v0, nX6_lowest)], j) → (∃ n2 an2 j2, xlk mX6_dust.2.2.2.2.1 (pc + 3) = some (.lreturn, n2, an2, j2)) → G pc loc [.int why, .ref 0] (eM a s) := by
    intro why k pc loc n x v0 j hk hw hkk g2 hi ⟨n2, an2, j2, hi2⟩
    refine xcall (G := G) g3 pM (m_lowest (d + 2) a s hk hw) (fun v wc' hp _ => ?_) rfl hi rfl rfl rfl (xsubM a s)
    obtain ⟨rfl, rfl⟩ := hp
    rw [xputM]
    exact g2.2.1 _ _ _ _ _ _ _ hi2 rfl ⟨rfl, _, s, by show relM (refu S (refK why)) _ s; rw [← hkk]; exact relM_no hr, rfl⟩
  refine And.intro (fun h => ?_) (fun h => ?_) <;> rw [bI_0] at h
  · rw [if_neg h] at g2
    refine xcallR (G := G) g3 [] (m_isIn (d + 2) [] p 0 1) ?_
    refine xwp_go g1 [] 100 _ _ _ _ ?_
    refine And.intro (fun h1 => ?_) (fun h1 => ?_) <;> rw [bI_0] at h1
    · rw [if_neg h1] at g2
      refine xcallR (G := G) g3 [] (m_bound (d + 2) [] t 0 9) ?_
      refine xwp_go g1 [] 100 _ _ _ _ ?_
      refine And.intro (fun h2 => ?_) (fun h2 => ?_)
      · rw [if_neg (fun z => z h2)] at g2
        obtain ⟨m, hm, rfl⟩ := setB_of (Bool.not_eq_false _ ▸ h)
        obtain ⟨tn, -, ht, rfl⟩ := bnd_0 (l := 0) (m := 9) (by decide) (by decide) h2
        obtain ⟨pn, -, hpn, rfl⟩ := inB_of (l := 0) (m := 1) (by decide) (by decide) (Bool.not_eq_false _ ▸ h1)
        rw [nI_clamp (by omega), nI_clamp (by omega), nI_clamp (by omega)] at g2
        have hla := laidQ_lt hr.1.1 m 0
        refine xcM (G := G) g3 (m_laid d hr.1 (set := m) (over := 0) (by omega) (by decide)) ?_
        refine xwp_go g1 [] 100 _ _ _ _ ?_
        refine xcallR (G := G) g3 [] (m_bits (d + 2) [] hla) ?_
        have hb := pop_le (laidQ S.1 m 0)
        generalize pop (laidQ S.1 m 0) = b at g2 hb
        have p10 : ∀ i, i ≤ 16 → 10 ^ i < 2 ^ 63 := fun i hi => Nat.lt_of_le_of_lt (Nat.pow_le_pow_right (by decide) hi) (by decide)
        have pt : ∀ i, i ≤ 16 → (10 - tn) ^ i < 2 ^ 63 := fun i hi => Nat.lt_of_le_of_lt (Nat.pow_le_pow_left (by omega) i) (p10 i hi)
        refine xwp_go g1 [68] 100 _ _ _ _ ?_
        generalize bndI (nI tn) 0 9 = why
        refine up (k := 16 - b) (P := fun i => ∀ x y z, x = nI (b + i) → y = lN ((10 - tn) ^ i) → z = lN (10 ^ i) → G 68 [some (.ref 0), some (.int (nI m)), some (.int (nI tn)), some (.int (nI pn)), some (.int why), some (.long y), none, some (.long z), none, some (.int x)] [] (eM a s)) ?_ ?_ 0 (Nat.zero_le _) _ _ _ rfl rfl rfl
        · intro x y z hx hy hz
          subst hx; subst hy; subst hz
          have hg : 0 < Nat.gcd ((10 - tn) ^ (16 - b)) (10 ^ (16 - b)) := Nat.gcd_pos_of_pos_right _ (Nat.pow_pos (by decide))
          have hgl : Nat.gcd ((10 - tn) ^ (16 - b)) (10 ^ (16 - b)) < 2 ^ 63 := Nat.lt_of_le_of_lt (Nat.gcd_le_right _ (Nat.pow_pos (by decide))) (p10 _ (by omega))
          refine xwp_go g1 [68] 100 _ _ _ _ ?_
          refine And.intro (fun _ => ?_) (fun h4 => absurd (by rw [show b + (16 - b) = 16 by omega]; decide) h4)
          have fin : ∀ y : Nat, y < 2 ^ 63 → y / Nat.gcd ((10 - tn) ^ (16 - b)) (10 ^ (16 - b)) = dustN tn pn (16 - b) → ∀ loc, G 117 loc [.long (lN (Nat.gcd ((10 - tn) ^ (16 - b)) (10 ^ (16 - b)))), .long (lN y)] (eM a s) := by
            intro y hy he loc
            refine xwp_go g1 [68] 100 _ _ _ _ ?_
            refine And.intro (fun h5 => ?_) ?_
            · rw [show (0 : Int64) = lN 0 from rfl, pk_lEQ hgl (by decide)] at h5
              omega
            · exact xrl' (G := G) g2 rfl ⟨by rw [pk_lDiv hy hg hgl, he], a, s, hr, rfl⟩
          refine And.intro (fun h4 => ?_) (fun h4 => ?_) <;> rw [show (0 : Int32) = nI 0 from rfl, nI_eq (by omega) (by decide)] at h4
          · refine xcall (G := G) g3 [] (m_divisor (d + 2) [] (pt (16 - b) (by omega)) (p10 (16 - b) (by omega))) (fun v wc' hp _ => ?_)
            obtain ⟨rfl, rfl⟩ := hp
            exact fin (10 ^ (16 - b)) (p10 _ (by omega)) (by unfold dustN; rw [if_neg h4]) _
          · refine xcall (G := G) g3 [] (m_divisor (d + 2) [] (pt (16 - b) (by omega)) (p10 (16 - b) (by omega))) (fun v wc' hp _ => ?_)
            obtain ⟨rfl, rfl⟩ := hp
            exact fin ((10 - tn) ^ (16 - b)) (pt _ (by omega)) (by unfold dustN; rw [if_pos h4]) _
        · intro i hi ih x y z hx hy hz
          subst hx; subst hy; subst hz
          refine xwp_go g1 [68] 100 _ _ _ _ ?_
          refine And.intro (fun h4 => absurd h4 (nI_ge (b := 16) (by omega) (by decide))) (fun _ => ?_)
          refine ih _ _ _ (by rw [nI_1]; rfl) ?_ ?_
          · rw [show (10 : Int32) = nI 10 from rfl, pk_sub (by omega), nI_l (by omega), lN_mul, Nat.pow_succ]
          · rw [show (10 : Int64) = lN 10 from rfl, lN_mul, Nat.pow_succ]
      · rw [if_pos h2] at g2
        exact low (bnd_k h2).1 (bnd_k h2).2 rfl g2 rfl ⟨_, _, _, rfl⟩
    · rw [if_pos h1] at g2
      exact low (k := 2) (by decide) (by decide) (by decide) g2 rfl ⟨_, _, _, rfl⟩
  · rw [if_pos h] at g2
    exact low (k := 1) (by decide) (by decide) (by decide) g2 rfl ⟨_, _, _, rfl⟩
end
section
/-! the reference keeps a lantern in a row, and takes it back (printed by wip/whole/gen_pass.py) -/
def cpK (f g : Nat → Int32) (c n : Nat) : Nat → Int32 := fun j => if c ≤ j ∧ j < c + n then g (j - c) else f j
theorem cpK_0 (f g : Nat → Int32) (c : Nat) : cpK f g c 0 = f := by
  funext j
  unfold cpK
  rw [if_neg (by omega)]
theorem cpK_s (f g : Nat → Int32) (c n : Nat) : upd (cpK f g c n) (c + n) (g n) = cpK f g c (n + 1) := by
  funext j
  rw [upd_at]
  unfold cpK
  by_cases e : j = c + n
  · rw [if_pos e, if_pos (by omega), e, Nat.add_sub_cancel_left]
  · rw [if_neg e]
    by_cases h : c ≤ j ∧ j < c + n
    · rw [if_pos h, if_pos (by omega)]
    · rw [if_neg h, if_neg (by omega)]
theorem cpK_in {f g : Nat → Int32} {c n j i : Nat} (h : j = c + i) (hi : i < n) : cpK f g c n j = g i := by
  unfold cpK
  rw [if_pos (by omega), h, Nat.add_sub_cancel_left]
theorem cpK_out {f g : Nat → Int32} {c n j : Nat} (h : j < c ∨ c + n ≤ j) : cpK f g c n j = f j := by
  unfold cpK
  rw [if_neg (by omega)]
theorem upd_ne {f : Nat → Int32} {k j : Nat} {v : Int32} (h : j ≠ k) : upd f k v j = f j := by rw [upd_at, if_neg h]
theorem upd_eq {f : Nat → Int32} {k j : Nat} {v : Int32} (h : j = k) : upd f k v j = v := by rw [upd_at, if_pos h]
theorem xcMV {tb : xT} {G : xK} {Cl : Nat → List Value → xH → xPost → Prop} {pc x n c : Nat} {M : xM} {v0 : Int32} {j : Int64} {loc : xL} {st rest : List Value} {a a' : Nat → Nat → Int32} {s s' : Nat → Int32} {as : List Value} (g3 : xG3 xMs tb Cl G) (hC : Cl c as (eM a s) (xRetV (eM a' s'))) (k : G (pc + 3) loc rest (eM a' s')) (hM : xnth xMs c = some M := by rfl) (hi : xlk tb pc = some ((match M.2.2.2.2.2.2 with | true => .invokestatic x | false => .invokevirtual x), n, [(v0, c)], j) := by rfl)
    (hst : st = (as.map (xrV pM)).reverse ++ rest := by rfl) (hr : Nat.ble (xcat rest) 8 = true := by rfl) : G pc loc st (eM a s) := xcallV g3 pM hC (by rw [xputM]; exact k) hM hi hst hr rfl (xsubM a s)
theorem m_keep0 (d : Nat) (a : Nat → Nat → Int32) (s : Nat → Int32) {c : Nat} (h7 : s 7 = 1) (h8 : s 8 = nI c) (hc : c + 8 ≤ 110) : xCt xMs (d + 1) nX6_passes [.ref 0, .ref 1] (eM a s) (xRetV (eM (aU a 11 (cpK (a 11) (a 0) c 8)) (sU s 8 (nI (c + 8))))) := by
  refine xV (M := mX6_passes) rfl rfl rfl rfl rfl pX6_passes rfl (fun G g1 g2 g3 => ?_)
  refine xwp_go g1 [2] 100 _ _ _ _ ?_
  refine up (k := 8) (P := fun i => ∀ x f v, x = nI i → f = cpK (a 11) (a 0) c i → v = nI (c + i) → G 2 [some (.ref 0), some (.ref 1), some (.int x)] [] (eM (aU a 11 f) (sU s 8 v))) ?_ ?_ 0 (Nat.zero_le _) _ (a 11) (s 8) rfl (cpK_0 _ _ _).symm h8
  · intro x f v hx hf hv
    subst hx; subst hf; subst hv
    refine xwp_go g1 [2] 100 _ _ _ _ ?_
    exact And.intro (fun _ => xrv (G := G) g2 rfl rfl) (fun h => absurd (by decide) h)
  · intro i hi ih x f v hx hf hv
    subst hx; subst hf; subst hv
    refine xwp_go g1 [2] 100 _ _ _ _ ?_
    refine And.intro (fun h => absurd h (nI_ge (b := 8) hi (by decide))) (fun _ => ?_)
    refine And.intro (fun h => absurd (show s 7 = 0 from h) (by rw [h7]; decide)) (fun _ => ?_)
    refine And.intro (vp_in_nI (by omega) (by decide)) (And.intro (vp_in_nI (by omega) (by decide)) ?_)
    refine ih _ (upd (cpK (a 11) (a 0) c i) (nI (c + i)).toNatClampNeg (a 0 (nI i).toNatClampNeg)) (nI (c + i) + 1) (nI_1 i) ?_ (by rw [nI_1]; rfl)
    rw [nI_clamp (by omega), nI_clamp (by omega), cpK_s]
theorem m_back0 (d : Nat) (a : Nat → Nat → Int32) (s : Nat → Int32) {c : Nat} (h7 : s 7 = 0) (h8 : s 8 = nI c) (hc : c + 8 ≤ 110) : xCt xMs (d + 1) nX6_passes [.ref 0, .ref 1] (eM a s) (xRetV (eM (aU a 0 (cpK (a 0) (fun i => a 11 (c + i)) 0 8)) (sU s 8 (nI (c + 8))))) := by
  refine xV (M := mX6_passes) rfl rfl rfl rfl rfl pX6_passes rfl (fun G g1 g2 g3 => ?_)
  refine xwp_go g1 [2] 100 _ _ _ _ ?_
  refine up (k := 8) (P := fun i => ∀ x f v, x = nI i → f = cpK (a 0) (fun i => a 11 (c + i)) 0 i → v = nI (c + i) → G 2 [some (.ref 0), some (.ref 1), some (.int x)] [] (eM (aU a 0 f) (sU s 8 v))) ?_ ?_ 0 (Nat.zero_le _) _ (a 0) (s 8) rfl (cpK_0 _ _ _).symm h8
  · intro x f v hx hf hv
    subst hx; subst hf; subst hv
    refine xwp_go g1 [2] 100 _ _ _ _ ?_
    exact And.intro (fun _ => xrv (G := G) g2 rfl rfl) (fun h => absurd (by decide) h)
  · intro i hi ih x f v hx hf hv
    subst hx; subst hf; subst hv
    refine xwp_go g1 [2] 100 _ _ _ _ ?_
    refine And.intro (fun h => absurd h (nI_ge (b := 8) hi (by decide))) (fun _ => ?_)
    refine And.intro (fun _ => ?_) (fun h => absurd h7 h)
    refine And.intro (vp_in_nI (by omega) (by decide)) (And.intro (vp_in_nI (by omega) (by decide)) ?_)
    refine ih _ (upd (cpK (a 0) (fun i => a 11 (c + i)) 0 i) (nI i).toNatClampNeg (a 11 (nI (c + i)).toNatClampNeg)) (nI (c + i) + 1) (nI_1 i) ?_ (by rw [nI_1]; rfl)
    rw [nI_clamp (by omega), nI_clamp (by omega)]
    have := cpK_s (a 0) (fun i => a 11 (c + i)) 0 i
    rw [Nat.zero_add] at this
    exact this
theorem m_keep1 (d : Nat) (a : Nat → Nat → Int32) (s : Nat → Int32) {c : Nat} (h7 : s 7 = 1) (h8 : s 8 = nI c) (hc : c + 8 ≤ 110) : xCt xMs (d + 1) nX6_passes [.ref 0, .ref 2] (eM a s) (xRetV (eM (aU a 11 (cpK (a 11) (a 1) c 8)) (sU s 8 (nI (c + 8))))) := by
  refine xV (M := mX6_passes) rfl rfl rfl rfl rfl pX6_passes rfl (fun G g1 g2 g3 => ?_)
  refine xwp_go g1 [2] 100 _ _ _ _ ?_
  refine up (k := 8) (P := fun i => ∀ x f v, x = nI i → f = cpK (a 11) (a 1) c i → v = nI (c + i) → G 2 [some (.ref 0), some (.ref 2), some (.int x)] [] (eM (aU a 11 f) (sU s 8 v))) ?_ ?_ 0 (Nat.zero_le _) _ (a 11) (s 8) rfl (cpK_0 _ _ _).symm h8
  · intro x f v hx hf hv
    subst hx; subst hf; subst hv
    refine xwp_go g1 [2] 100 _ _ _ _ ?_
    exact And.intro (fun _ => xrv (G := G) g2 rfl rfl) (fun h => absurd (by decide) h)
  · intro i hi ih x f v hx hf hv
    subst hx; subst hf; subst hv
    refine xwp_go g1 [2] 100 _ _ _ _ ?_
    refine And.intro (fun h => absurd h (nI_ge (b := 8) hi (by decide))) (fun _ => ?_)
    refine And.intro (fun h => absurd (show s 7 = 0 from h) (by rw [h7]; decide)) (fun _ => ?_)
    refine And.intro (vp_in_nI (by omega) (by decide)) (And.intro (vp_in_nI (by omega) (by decide)) ?_)
    refine ih _ (upd (cpK (a 11) (a 1) c i) (nI (c + i)).toNatClampNeg (a 1 (nI i).toNatClampNeg)) (nI (c + i) + 1) (nI_1 i) ?_ (by rw [nI_1]; rfl)
    rw [nI_clamp (by omega), nI_clamp (by omega), cpK_s]
theorem m_back1 (d : Nat) (a : Nat → Nat → Int32) (s : Nat → Int32) {c : Nat} (h7 : s 7 = 0) (h8 : s 8 = nI c) (hc : c + 8 ≤ 110) : xCt xMs (d + 1) nX6_passes [.ref 0, .ref 2] (eM a s) (xRetV (eM (aU a 1 (cpK (a 1) (fun i => a 11 (c + i)) 0 8)) (sU s 8 (nI (c + 8))))) := by
  refine xV (M := mX6_passes) rfl rfl rfl rfl rfl pX6_passes rfl (fun G g1 g2 g3 => ?_)
  refine xwp_go g1 [2] 100 _ _ _ _ ?_
  refine up (k := 8) (P := fun i => ∀ x f v, x = nI i → f = cpK (a 1) (fun i => a 11 (c + i)) 0 i → v = nI (c + i) → G 2 [some (.ref 0), some (.ref 2), some (.int x)] [] (eM (aU a 1 f) (sU s 8 v))) ?_ ?_ 0 (Nat.zero_le _) _ (a 1) (s 8) rfl (cpK_0 _ _ _).symm h8
  · intro x f v hx hf hv
    subst hx; subst hf; subst hv
    refine xwp_go g1 [2] 100 _ _ _ _ ?_
    exact And.intro (fun _ => xrv (G := G) g2 rfl rfl) (fun h => absurd (by decide) h)
  · intro i hi ih x f v hx hf hv
    subst hx; subst hf; subst hv
    refine xwp_go g1 [2] 100 _ _ _ _ ?_
    refine And.intro (fun h => absurd h (nI_ge (b := 8) hi (by decide))) (fun _ => ?_)
    refine And.intro (fun _ => ?_) (fun h => absurd h7 h)
    refine And.intro (vp_in_nI (by omega) (by decide)) (And.intro (vp_in_nI (by omega) (by decide)) ?_)
    refine ih _ (upd (cpK (a 1) (fun i => a 11 (c + i)) 0 i) (nI i).toNatClampNeg (a 11 (nI (c + i)).toNatClampNeg)) (nI (c + i) + 1) (nI_1 i) ?_ (by rw [nI_1]; rfl)
    rw [nI_clamp (by omega), nI_clamp (by omega)]
    have := cpK_s (a 1) (fun i => a 11 (c + i)) 0 i
    rw [Nat.zero_add] at this
    exact this
theorem m_keep2 (d : Nat) (a : Nat → Nat → Int32) (s : Nat → Int32) {c : Nat} (h7 : s 7 = 1) (h8 : s 8 = nI c) (hc : c + 8 ≤ 110) : xCt xMs (d + 1) nX6_passes [.ref 0, .ref 3] (eM a s) (xRetV (eM (aU a 11 (cpK (a 11) (a 2) c 8)) (sU s 8 (nI (c + 8))))) := by
  refine xV (M := mX6_passes) rfl rfl rfl rfl rfl pX6_passes rfl (fun G g1 g2 g3 => ?_)
  refine xwp_go g1 [2] 100 _ _ _ _ ?_
  refine up (k := 8) (P := fun i => ∀ x f v, x = nI i → f = cpK (a 11) (a 2) c i → v = nI (c + i) → G 2 [some (.ref 0), some (.ref 3), some (.int x)] [] (eM (aU a 11 f) (sU s 8 v))) ?_ ?_ 0 (Nat.zero_le _) _ (a 11) (s 8) rfl (cpK_0 _ _ _).symm h8
  · intro x f v hx hf hv
    subst hx; subst hf; subst hv
    refine xwp_go g1 [2] 100 _ _ _ _ ?_
    exact And.intro (fun _ => xrv (G := G) g2 rfl rfl) (fun h => absurd (by decide) h)
  · intro i hi ih x f v hx hf hv
    subst hx; subst hf; subst hv
    refine xwp_go g1 [2] 100 _ _ _ _ ?_
    refine And.intro (fun h => absurd h (nI_ge (b := 8) hi (by decide))) (fun _ => ?_)
    refine And.intro (fun h => absurd (show s 7 = 0 from h) (by rw [h7]; decide)) (fun _ => ?_)
    refine And.intro (vp_in_nI (by omega) (by decide)) (And.intro (vp_in_nI (by omega) (by decide)) ?_)
    refine ih _ (upd (cpK (a 11) (a 2) c i) (nI (c + i)).toNatClampNeg (a 2 (nI i).toNatClampNeg)) (nI (c + i) + 1) (nI_1 i) ?_ (by rw [nI_1]; rfl)
    rw [nI_clamp (by omega), nI_clamp (by omega), cpK_s]
theorem m_back2 (d : Nat) (a : Nat → Nat → Int32) (s : Nat → Int32) {c : Nat} (h7 : s 7 = 0) (h8 : s 8 = nI c) (hc : c + 8 ≤ 110) : xCt xMs (d + 1) nX6_passes [.ref 0, .ref 3] (eM a s) (xRetV (eM (aU a 2 (cpK (a 2) (fun i => a 11 (c + i)) 0 8)) (sU s 8 (nI (c + 8))))) := by
  refine xV (M := mX6_passes) rfl rfl rfl rfl rfl pX6_passes rfl (fun G g1 g2 g3 => ?_)
  refine xwp_go g1 [2] 100 _ _ _ _ ?_
  refine up (k := 8) (P := fun i => ∀ x f v, x = nI i → f = cpK (a 2) (fun i => a 11 (c + i)) 0 i → v = nI (c + i) → G 2 [some (.ref 0), some (.ref 3), some (.int x)] [] (eM (aU a 2 f) (sU s 8 v))) ?_ ?_ 0 (Nat.zero_le _) _ (a 2) (s 8) rfl (cpK_0 _ _ _).symm h8
  · intro x f v hx hf hv
    subst hx; subst hf; subst hv
    refine xwp_go g1 [2] 100 _ _ _ _ ?_
    exact And.intro (fun _ => xrv (G := G) g2 rfl rfl) (fun h => absurd (by decide) h)
  · intro i hi ih x f v hx hf hv
    subst hx; subst hf; subst hv
    refine xwp_go g1 [2] 100 _ _ _ _ ?_
    refine And.intro (fun h => absurd h (nI_ge (b := 8) hi (by decide))) (fun _ => ?_)
    refine And.intro (fun _ => ?_) (fun h => absurd h7 h)
    refine And.intro (vp_in_nI (by omega) (by decide)) (And.intro (vp_in_nI (by omega) (by decide)) ?_)
    refine ih _ (upd (cpK (a 2) (fun i => a 11 (c + i)) 0 i) (nI i).toNatClampNeg (a 11 (nI (c + i)).toNatClampNeg)) (nI (c + i) + 1) (nI_1 i) ?_ (by rw [nI_1]; rfl)
    rw [nI_clamp (by omega), nI_clamp (by omega)]
    have := cpK_s (a 2) (fun i => a 11 (c + i)) 0 i
    rw [Nat.zero_add] at this
    exact this
theorem m_keep3 (d : Nat) (a : Nat → Nat → Int32) (s : Nat → Int32) {c : Nat} (h7 : s 7 = 1) (h8 : s 8 = nI c) (hc : c + 8 ≤ 110) : xCt xMs (d + 1) nX6_passes [.ref 0, .ref 4] (eM a s) (xRetV (eM (aU a 11 (cpK (a 11) (a 3) c 8)) (sU s 8 (nI (c + 8))))) := by
  refine xV (M := mX6_passes) rfl rfl rfl rfl rfl pX6_passes rfl (fun G g1 g2 g3 => ?_)
  refine xwp_go g1 [2] 100 _ _ _ _ ?_
  refine up (k := 8) (P := fun i => ∀ x f v, x = nI i → f = cpK (a 11) (a 3) c i → v = nI (c + i) → G 2 [some (.ref 0), some (.ref 4), some (.int x)] [] (eM (aU a 11 f) (sU s 8 v))) ?_ ?_ 0 (Nat.zero_le _) _ (a 11) (s 8) rfl (cpK_0 _ _ _).symm h8
  · intro x f v hx hf hv
    subst hx; subst hf; subst hv
    refine xwp_go g1 [2] 100 _ _ _ _ ?_
    exact And.intro (fun _ => xrv (G := G) g2 rfl rfl) (fun h => absurd (by decide) h)
  · intro i hi ih x f v hx hf hv
    subst hx; subst hf; subst hv
    refine xwp_go g1 [2] 100 _ _ _ _ ?_
    refine And.intro (fun h => absurd h (nI_ge (b := 8) hi (by decide))) (fun _ => ?_)
    refine And.intro (fun h => absurd (show s 7 = 0 from h) (by rw [h7]; decide)) (fun _ => ?_)
    refine And.intro (vp_in_nI (by omega) (by decide)) (And.intro (vp_in_nI (by omega) (by decide)) ?_)
    refine ih _ (upd (cpK (a 11) (a 3) c i) (nI (c + i)).toNatClampNeg (a 3 (nI i).toNatClampNeg)) (nI (c + i) + 1) (nI_1 i) ?_ (by rw [nI_1]; rfl)
    rw [nI_clamp (by omega), nI_clamp (by omega), cpK_s]
theorem m_back3 (d : Nat) (a : Nat → Nat → Int32) (s : Nat → Int32) {c : Nat} (h7 : s 7 = 0) (h8 : s 8 = nI c) (hc : c + 8 ≤ 110) : xCt xMs (d + 1) nX6_passes [.ref 0, .ref 4] (eM a s) (xRetV (eM (aU a 3 (cpK (a 3) (fun i => a 11 (c + i)) 0 8)) (sU s 8 (nI (c + 8))))) := by
  refine xV (M := mX6_passes) rfl rfl rfl rfl rfl pX6_passes rfl (fun G g1 g2 g3 => ?_)
  refine xwp_go g1 [2] 100 _ _ _ _ ?_
  refine up (k := 8) (P := fun i => ∀ x f v, x = nI i → f = cpK (a 3) (fun i => a 11 (c + i)) 0 i → v = nI (c + i) → G 2 [some (.ref 0), some (.ref 4), some (.int x)] [] (eM (aU a 3 f) (sU s 8 v))) ?_ ?_ 0 (Nat.zero_le _) _ (a 3) (s 8) rfl (cpK_0 _ _ _).symm h8
  · intro x f v hx hf hv
    subst hx; subst hf; subst hv
    refine xwp_go g1 [2] 100 _ _ _ _ ?_
    exact And.intro (fun _ => xrv (G := G) g2 rfl rfl) (fun h => absurd (by decide) h)
  · intro i hi ih x f v hx hf hv
    subst hx; subst hf; subst hv
    refine xwp_go g1 [2] 100 _ _ _ _ ?_
    refine And.intro (fun h => absurd h (nI_ge (b := 8) hi (by decide))) (fun _ => ?_)
    refine And.intro (fun _ => ?_) (fun h => absurd h7 h)
    refine And.intro (vp_in_nI (by omega) (by decide)) (And.intro (vp_in_nI (by omega) (by decide)) ?_)
    refine ih _ (upd (cpK (a 3) (fun i => a 11 (c + i)) 0 i) (nI i).toNatClampNeg (a 11 (nI (c + i)).toNatClampNeg)) (nI (c + i) + 1) (nI_1 i) ?_ (by rw [nI_1]; rfl)
    rw [nI_clamp (by omega), nI_clamp (by omega)]
    have := cpK_s (a 3) (fun i => a 11 (c + i)) 0 i
    rw [Nat.zero_add] at this
    exact this
theorem m_keep4 (d : Nat) (a : Nat → Nat → Int32) (s : Nat → Int32) {c : Nat} (h7 : s 7 = 1) (h8 : s 8 = nI c) (hc : c + 8 ≤ 110) : xCt xMs (d + 1) nX6_passes [.ref 0, .ref 5] (eM a s) (xRetV (eM (aU a 11 (cpK (a 11) (a 4) c 8)) (sU s 8 (nI (c + 8))))) := by
  refine xV (M := mX6_passes) rfl rfl rfl rfl rfl pX6_passes rfl (fun G g1 g2 g3 => ?_)
  refine xwp_go g1 [2] 100 _ _ _ _ ?_
  refine up (k := 8) (P := fun i => ∀ x f v, x = nI i → f = cpK (a 11) (a 4) c i → v = nI (c + i) → G 2 [some (.ref 0), some (.ref 5), some (.int x)] [] (eM (aU a 11 f) (sU s 8 v))) ?_ ?_ 0 (Nat.zero_le _) _ (a 11) (s 8) rfl (cpK_0 _ _ _).symm h8
  · intro x f v hx hf hv
    subst hx; subst hf; subst hv
    refine xwp_go g1 [2] 100 _ _ _ _ ?_
    exact And.intro (fun _ => xrv (G := G) g2 rfl rfl) (fun h => absurd (by decide) h)
  · intro i hi ih x f v hx hf hv
    subst hx; subst hf; subst hv
    refine xwp_go g1 [2] 100 _ _ _ _ ?_
    refine And.intro (fun h => absurd h (nI_ge (b := 8) hi (by decide))) (fun _ => ?_)
    refine And.intro (fun h => absurd (show s 7 = 0 from h) (by rw [h7]; decide)) (fun _ => ?_)
    refine And.intro (vp_in_nI (by omega) (by decide)) (And.intro (vp_in_nI (by omega) (by decide)) ?_)
    refine ih _ (upd (cpK (a 11) (a 4) c i) (nI (c + i)).toNatClampNeg (a 4 (nI i).toNatClampNeg)) (nI (c + i) + 1) (nI_1 i) ?_ (by rw [nI_1]; rfl)
    rw [nI_clamp (by omega), nI_clamp (by omega), cpK_s]
theorem m_back4 (d : Nat) (a : Nat → Nat → Int32) (s : Nat → Int32) {c : Nat} (h7 : s 7 = 0) (h8 : s 8 = nI c) (hc : c + 8 ≤ 110) : xCt xMs (d + 1) nX6_passes [.ref 0, .ref 5] (eM a s) (xRetV (eM (aU a 4 (cpK (a 4) (fun i => a 11 (c + i)) 0 8)) (sU s 8 (nI (c + 8))))) := by
  refine xV (M := mX6_passes) rfl rfl rfl rfl rfl pX6_passes rfl (fun G g1 g2 g3 => ?_)
  refine xwp_go g1 [2] 100 _ _ _ _ ?_
  refine up (k := 8) (P := fun i => ∀ x f v, x = nI i → f = cpK (a 4) (fun i => a 11 (c + i)) 0 i → v = nI (c + i) → G 2 [some (.ref 0), some (.ref 5), some (.int x)] [] (eM (aU a 4 f) (sU s 8 v))) ?_ ?_ 0 (Nat.zero_le _) _ (a 4) (s 8) rfl (cpK_0 _ _ _).symm h8
  · intro x f v hx hf hv
    subst hx; subst hf; subst hv
    refine xwp_go g1 [2] 100 _ _ _ _ ?_
    exact And.intro (fun _ => xrv (G := G) g2 rfl rfl) (fun h => absurd (by decide) h)
  · intro i hi ih x f v hx hf hv
    subst hx; subst hf; subst hv
    refine xwp_go g1 [2] 100 _ _ _ _ ?_
    refine And.intro (fun h => absurd h (nI_ge (b := 8) hi (by decide))) (fun _ => ?_)
    refine And.intro (fun _ => ?_) (fun h => absurd h7 h)
    refine And.intro (vp_in_nI (by omega) (by decide)) (And.intro (vp_in_nI (by omega) (by decide)) ?_)
    refine ih _ (upd (cpK (a 4) (fun i => a 11 (c + i)) 0 i) (nI i).toNatClampNeg (a 11 (nI (c + i)).toNatClampNeg)) (nI (c + i) + 1) (nI_1 i) ?_ (by rw [nI_1]; rfl)
    rw [nI_clamp (by omega), nI_clamp (by omega)]
    have := cpK_s (a 4) (fun i => a 11 (c + i)) 0 i
    rw [Nat.zero_add] at this
    exact this
theorem m_keep5 (d : Nat) (a : Nat → Nat → Int32) (s : Nat → Int32) {c : Nat} (h7 : s 7 = 1) (h8 : s 8 = nI c) (hc : c + 6 ≤ 110) : xCt xMs (d + 1) nX6_passes [.ref 0, .ref 6] (eM a s) (xRetV (eM (aU a 11 (cpK (a 11) (a 5) c 6)) (sU s 8 (nI (c + 6))))) := by
  refine xV (M := mX6_passes) rfl rfl rfl rfl rfl pX6_passes rfl (fun G g1 g2 g3 => ?_)
  refine xwp_go g1 [2] 100 _ _ _ _ ?_
  refine up (k := 6) (P := fun i => ∀ x f v, x = nI i → f = cpK (a 11) (a 5) c i → v = nI (c + i) → G 2 [some (.ref 0), some (.ref 6), some (.int x)] [] (eM (aU a 11 f) (sU s 8 v))) ?_ ?_ 0 (Nat.zero_le _) _ (a 11) (s 8) rfl (cpK_0 _ _ _).symm h8
  · intro x f v hx hf hv
    subst hx; subst hf; subst hv
    refine xwp_go g1 [2] 100 _ _ _ _ ?_
    exact And.intro (fun _ => xrv (G := G) g2 rfl rfl) (fun h => absurd (by decide) h)
  · intro i hi ih x f v hx hf hv
    subst hx; subst hf; subst hv
    refine xwp_go g1 [2] 100 _ _ _ _ ?_
    refine And.intro (fun h => absurd h (nI_ge (b := 6) hi (by decide))) (fun _ => ?_)
    refine And.intro (fun h => absurd (show s 7 = 0 from h) (by rw [h7]; decide)) (fun _ => ?_)
    refine And.intro (vp_in_nI (by omega) (by decide)) (And.intro (vp_in_nI (by omega) (by decide)) ?_)
    refine ih _ (upd (cpK (a 11) (a 5) c i) (nI (c + i)).toNatClampNeg (a 5 (nI i).toNatClampNeg)) (nI (c + i) + 1) (nI_1 i) ?_ (by rw [nI_1]; rfl)
    rw [nI_clamp (by omega), nI_clamp (by omega), cpK_s]
theorem m_back5 (d : Nat) (a : Nat → Nat → Int32) (s : Nat → Int32) {c : Nat} (h7 : s 7 = 0) (h8 : s 8 = nI c) (hc : c + 6 ≤ 110) : xCt xMs (d + 1) nX6_passes [.ref 0, .ref 6] (eM a s) (xRetV (eM (aU a 5 (cpK (a 5) (fun i => a 11 (c + i)) 0 6)) (sU s 8 (nI (c + 6))))) := by
  refine xV (M := mX6_passes) rfl rfl rfl rfl rfl pX6_passes rfl (fun G g1 g2 g3 => ?_)
  refine xwp_go g1 [2] 100 _ _ _ _ ?_
  refine up (k := 6) (P := fun i => ∀ x f v, x = nI i → f = cpK (a 5) (fun i => a 11 (c + i)) 0 i → v = nI (c + i) → G 2 [some (.ref 0), some (.ref 6), some (.int x)] [] (eM (aU a 5 f) (sU s 8 v))) ?_ ?_ 0 (Nat.zero_le _) _ (a 5) (s 8) rfl (cpK_0 _ _ _).symm h8
  · intro x f v hx hf hv
    subst hx; subst hf; subst hv
    refine xwp_go g1 [2] 100 _ _ _ _ ?_
    exact And.intro (fun _ => xrv (G := G) g2 rfl rfl) (fun h => absurd (by decide) h)
  · intro i hi ih x f v hx hf hv
    subst hx; subst hf; subst hv
    refine xwp_go g1 [2] 100 _ _ _ _ ?_
    refine And.intro (fun h => absurd h (nI_ge (b := 6) hi (by decide))) (fun _ => ?_)
    refine And.intro (fun _ => ?_) (fun h => absurd h7 h)
    refine And.intro (vp_in_nI (by omega) (by decide)) (And.intro (vp_in_nI (by omega) (by decide)) ?_)
    refine ih _ (upd (cpK (a 5) (fun i => a 11 (c + i)) 0 i) (nI i).toNatClampNeg (a 11 (nI (c + i)).toNatClampNeg)) (nI (c + i) + 1) (nI_1 i) ?_ (by rw [nI_1]; rfl)
    rw [nI_clamp (by omega), nI_clamp (by omega)]
    have := cpK_s (a 5) (fun i => a 11 (c + i)) 0 i
    rw [Nat.zero_add] at this
    exact this
theorem m_keepOne (d : Nat) (a : Nat → Nat → Int32) (s : Nat → Int32) (v : Int32) {c : Nat} (h7 : s 7 = 1) (h8 : s 8 = nI c) (hc : c < 110) : xCt xMs (d + 1) nX6_passOne [.ref 0, .int v] (eM a s) (xRet v (eM (aU a 11 (upd (a 11) c v)) (sU s 8 (nI (c + 1))))) := by
  have hin : vp_in (s 8) 110 := by rw [h8]; exact vp_in_nI hc (by decide)
  have cl : (s 8).toNatClampNeg = c := by rw [h8]; exact nI_clamp (by omega)
  refine xV (M := mX6_passOne) rfl rfl rfl rfl rfl pX6_passOne rfl (fun G g1 g2 g3 => ?_)
  refine xwp_go g1 [] 100 _ _ _ _ ?_
  refine And.intro (fun h => absurd (show s 7 = 0 from h) (by rw [h7]; decide)) (fun _ => ?_)
  refine And.intro (fun h => absurd (show s 7 = 0 from h) (by rw [h7]; decide)) (fun _ => ?_)
  refine And.intro hin ?_
  refine xri (G := G) g2 rfl rfl ?_
  rw [cl, h8, nI_1]
  rfl
theorem m_backOne (d : Nat) (a : Nat → Nat → Int32) (s : Nat → Int32) (v : Int32) {c : Nat} (h7 : s 7 = 0) (h8 : s 8 = nI c) (hc : c < 110) : xCt xMs (d + 1) nX6_passOne [.ref 0, .int v] (eM a s) (xRet (a 11 c) (eM a (sU s 8 (nI (c + 1))))) := by
  have hin : vp_in (s 8) 110 := by rw [h8]; exact vp_in_nI hc (by decide)
  have cl : (s 8).toNatClampNeg = c := by rw [h8]; exact nI_clamp (by omega)
  refine xV (M := mX6_passOne) rfl rfl rfl rfl rfl pX6_passOne rfl (fun G g1 g2 g3 => ?_)
  refine xwp_go g1 [] 100 _ _ _ _ ?_
  refine And.intro (fun _ => ?_) (fun h => absurd h7 h)
  refine And.intro hin ?_
  refine And.intro (fun _ => ?_) (fun h => absurd h7 h)
  refine xri (G := G) g2 rfl (by rw [cl]) ?_
  rw [h8, nI_1]
  rfl
def keepP (q : LQ) (b : Nat) (a : Nat → Nat → Int32) (s : Nat → Int32) : xPost := fun v w => v = none ∧ ∃ (F : Nat → Int32) (s' : Nat → Int32), keptA q F b ∧ (∀ j, (j < b ∨ b + 49 ≤ j) → F j = a 11 j) ∧ (∀ r, r ≠ 7 → r ≠ 8 → s' r = s r) ∧ w = eM (aU a 11 F) s'
def backP (q : LQ) (a : Nat → Nat → Int32) (s : Nat → Int32) : xPost := fun v w => v = none ∧ ∃ (a' : Nat → Nat → Int32) (s' : Nat → Int32), relS q a' s' ∧ (∀ r, 6 ≤ r → a' r = a r) ∧ (∀ r, 3 ≤ r → r ≠ 7 → r ≠ 8 → s' r = s r) ∧ w = eM a' s'

theorem m_keepAll (d : Nat) {q : LQ} {a : Nat → Nat → Int32} {s : Nat → Int32} (hr : relS q a s) {o : Nat} (ho : o < 2) : xCt xMs (d + 2) nX6_passesAll [.ref 0, .int (nI o), .int 1] (eM a s) (keepP q (55 * o) a s) := by
  refine xV (M := mX6_passesAll) rfl rfl rfl rfl rfl pX6_passesAll rfl (fun G g1 g2 g3 => ?_)
  refine xwp_go g1 [] 100 _ _ _ _ ?_
  refine And.intro (Or.inr rfl) ?_
  have eb : (55 : Int32) * nI o = nI (55 * o) := pk_mul 55 o
  generalize hb : 55 * o = b at eb g2
  have hb2 : b ≤ 55 := by omega
  refine xcMV (G := G) g3 (m_keep0 d a (sU (sU s 8 ((55 : Int32) * nI o)) 7 1) (c := b) rfl eb (by omega)) ?_
  refine xwp_go g1 [] 100 _ _ _ _ ?_
  refine xcMV (G := G) g3 (m_keep1 d _ _ (c := b + 8) rfl rfl (by omega)) ?_
  refine xwp_go g1 [] 100 _ _ _ _ ?_
  refine xcMV (G := G) g3 (m_keep2 d _ _ (c := b + 16) rfl rfl (by omega)) ?_
  refine xwp_go g1 [] 100 _ _ _ _ ?_
  refine xcMV (G := G) g3 (m_keep3 d _ _ (c := b + 24) rfl rfl (by omega)) ?_
  refine xwp_go g1 [] 100 _ _ _ _ ?_
  refine xcMV (G := G) g3 (m_keep4 d _ _ (c := b + 32) rfl rfl (by omega)) ?_
  refine xwp_go g1 [] 100 _ _ _ _ ?_
  refine xcMV (G := G) g3 (m_keep5 d _ _ (c := b + 40) rfl rfl (by omega)) ?_
  refine xwp_go g1 [] 100 _ _ _ _ ?_
  refine xcMW (G := G) g3 (m_keepOne d (aU a 11 (cpK (cpK (cpK (cpK (cpK (cpK (a 11) (a 0) b 8) (a 1) (b + 8) 8) (a 2) (b + 16) 8) (a 3) (b + 24) 8) (a 4) (b + 32) 8) (a 5) (b + 40) 6)) (sU (sU s 7 1) 8 (nI (b + 46))) (s 0) (c := b + 46) rfl rfl (by omega)) ?_
  refine xwp_go g1 [] 100 _ _ _ _ ?_
  refine xcMW (G := G) g3 (m_keepOne d (aU a 11 (upd (cpK (cpK (cpK (cpK (cpK (cpK (a 11) (a 0) b 8) (a 1) (b + 8) 8) (a 2) (b + 16) 8) (a 3) (b + 24) 8) (a 4) (b + 32) 8) (a 5) (b + 40) 6) (b + 46) (s 0))) (sU (sU (sU (sU s 7 1) 8 (nI (b + 46))) 8 (nI (b + 47))) 0 (s 0)) (s 1) (c := b + 47) rfl rfl (by omega)) ?_
  refine xwp_go g1 [] 100 _ _ _ _ ?_
  refine xcMW (G := G) g3 (m_keepOne d (aU a 11 (upd (upd (cpK (cpK (cpK (cpK (cpK (cpK (a 11) (a 0) b 8) (a 1) (b + 8) 8) (a 2) (b + 16) 8) (a 3) (b + 24) 8) (a 4) (b + 32) 8) (a 5) (b + 40) 6) (b + 46) (s 0)) (b + 47) (s 1))) (sU (sU (sU (sU (sU (sU s 7 1) 8 (nI (b + 46))) 8 (nI (b + 47))) 0 (s 0)) 8 (nI (b + 48))) 1 (s 1)) (s 2) (c := b + 48) rfl rfl (by omega)) ?_
  refine xwp_go g1 [] 100 _ _ _ _ ?_
  refine xrv' (G := G) g2 rfl ⟨rfl, (upd (upd (upd (cpK (cpK (cpK (cpK (cpK (cpK (a 11) (a 0) b 8) (a 1) (b + 8) 8) (a 2) (b + 16) 8) (a 3) (b + 24) 8) (a 4) (b + 32) 8) (a 5) (b + 40) 6) (b + 46) (s 0)) (b + 47) (s 1)) (b + 48) (s 2)), (sU (sU (sU (sU s 7 1) 8 (nI (b + 49))) 0 (s 0)) 1 (s 1)), ?_, fun j hj => ?_, fun r h7 h8 => ?_, rfl⟩
  · obtain ⟨hok, hA, hW, h0, h1, h2⟩ := hr
    have p8 := hok.1
    have p6 := hok.2.1
    refine ⟨hok, fun i hi => ?_, fun i hi => ?_, ?_, ?_, ?_⟩
    · obtain ⟨k0, k1, k2, k3, k4⟩ := hA i hi
      refine ⟨?_, ?_, ?_, ?_, ?_⟩
      · rw [upd_ne (by omega), upd_ne (by omega), upd_ne (by omega), cpK_out (by omega), cpK_out (by omega), cpK_out (by omega), cpK_out (by omega), cpK_out (by omega), cpK_in (i := i) (by omega) (by omega), k0]
      · rw [upd_ne (by omega), upd_ne (by omega), upd_ne (by omega), cpK_out (by omega), cpK_out (by omega), cpK_out (by omega), cpK_out (by omega), cpK_in (i := i) (by omega) (by omega), k1]
      · rw [upd_ne (by omega), upd_ne (by omega), upd_ne (by omega), cpK_out (by omega), cpK_out (by omega), cpK_out (by omega), cpK_in (i := i) (by omega) (by omega), k2]
      · rw [upd_ne (by omega), upd_ne (by omega), upd_ne (by omega), cpK_out (by omega), cpK_out (by omega), cpK_in (i := i) (by omega) (by omega), k3]
      · rw [upd_ne (by omega), upd_ne (by omega), upd_ne (by omega), cpK_out (by omega), cpK_in (i := i) (by omega) (by omega), k4]
    · rw [upd_ne (by omega), upd_ne (by omega), upd_ne (by omega), cpK_in (i := i) (by omega) (by omega), hW i hi]
    · rw [upd_ne (by omega), upd_ne (by omega), upd_eq rfl, h0]
    · rw [upd_ne (by omega), upd_eq rfl, h1]
    · rw [upd_eq rfl, h2]
  · rw [upd_ne (by omega), upd_ne (by omega), upd_ne (by omega), cpK_out (by omega), cpK_out (by omega), cpK_out (by omega), cpK_out (by omega), cpK_out (by omega), cpK_out (by omega)]
  · by_cases e1 : r = 1
    · rw [e1]; rfl
    by_cases e0 : r = 0
    · rw [e0]; rfl
    rw [sU_ne e1, sU_ne e0, sU_ne h8, sU_ne h7]
theorem m_backAll (d : Nat) {q : LQ} {a : Nat → Nat → Int32} {s : Nat → Int32} {o : Nat} (ho : o < 2) (hk : keptA q (a 11) (55 * o)) : xCt xMs (d + 2) nX6_passesAll [.ref 0, .int (nI o), .int 0] (eM a s) (backP q a s) := by
  refine xV (M := mX6_passesAll) rfl rfl rfl rfl rfl pX6_passesAll rfl (fun G g1 g2 g3 => ?_)
  refine xwp_go g1 [] 100 _ _ _ _ ?_
  refine And.intro (Or.inl rfl) ?_
  have eb : (55 : Int32) * nI o = nI (55 * o) := pk_mul 55 o
  generalize hb : 55 * o = b at eb hk
  have hb2 : b ≤ 55 := by omega
  refine xcMV (G := G) g3 (m_back0 d a (sU (sU s 8 ((55 : Int32) * nI o)) 7 0) (c := b) rfl eb (by omega)) ?_
  refine xwp_go g1 [] 100 _ _ _ _ ?_
  refine xcMV (G := G) g3 (m_back1 d _ _ (c := b + 8) rfl rfl (by omega)) ?_
  refine xwp_go g1 [] 100 _ _ _ _ ?_
  refine xcMV (G := G) g3 (m_back2 d _ _ (c := b + 16) rfl rfl (by omega)) ?_
  refine xwp_go g1 [] 100 _ _ _ _ ?_
  refine xcMV (G := G) g3 (m_back3 d _ _ (c := b + 24) rfl rfl (by omega)) ?_
  refine xwp_go g1 [] 100 _ _ _ _ ?_
  refine xcMV (G := G) g3 (m_back4 d _ _ (c := b + 32) rfl rfl (by omega)) ?_
  refine xwp_go g1 [] 100 _ _ _ _ ?_
  refine xcMV (G := G) g3 (m_back5 d _ _ (c := b + 40) rfl rfl (by omega)) ?_
  refine xwp_go g1 [] 100 _ _ _ _ ?_
  refine xcMW (G := G) g3 (m_backOne d (aU (aU (aU (aU (aU (aU a 0 (cpK (a 0) (fun i => a 11 (b + i)) 0 8)) 1 (cpK (a 1) (fun i => a 11 ((b + 8) + i)) 0 8)) 2 (cpK (a 2) (fun i => a 11 ((b + 16) + i)) 0 8)) 3 (cpK (a 3) (fun i => a 11 ((b + 24) + i)) 0 8)) 4 (cpK (a 4) (fun i => a 11 ((b + 32) + i)) 0 8)) 5 (cpK (a 5) (fun i => a 11 ((b + 40) + i)) 0 6)) (sU (sU s 7 0) 8 (nI (b + 46))) _ (c := b + 46) rfl rfl (by omega)) ?_
  refine xwp_go g1 [] 100 _ _ _ _ ?_
  refine xcMW (G := G) g3 (m_backOne d (aU (aU (aU (aU (aU (aU a 0 (cpK (a 0) (fun i => a 11 (b + i)) 0 8)) 1 (cpK (a 1) (fun i => a 11 ((b + 8) + i)) 0 8)) 2 (cpK (a 2) (fun i => a 11 ((b + 16) + i)) 0 8)) 3 (cpK (a 3) (fun i => a 11 ((b + 24) + i)) 0 8)) 4 (cpK (a 4) (fun i => a 11 ((b + 32) + i)) 0 8)) 5 (cpK (a 5) (fun i => a 11 ((b + 40) + i)) 0 6)) (sU (sU (sU (sU s 7 0) 8 (nI (b + 46))) 8 (nI (b + 47))) 0 (a 11 (b + 46))) _ (c := b + 47) rfl rfl (by omega)) ?_
  refine xwp_go g1 [] 100 _ _ _ _ ?_
  refine xcMW (G := G) g3 (m_backOne d (aU (aU (aU (aU (aU (aU a 0 (cpK (a 0) (fun i => a 11 (b + i)) 0 8)) 1 (cpK (a 1) (fun i => a 11 ((b + 8) + i)) 0 8)) 2 (cpK (a 2) (fun i => a 11 ((b + 16) + i)) 0 8)) 3 (cpK (a 3) (fun i => a 11 ((b + 24) + i)) 0 8)) 4 (cpK (a 4) (fun i => a 11 ((b + 32) + i)) 0 8)) 5 (cpK (a 5) (fun i => a 11 ((b + 40) + i)) 0 6)) (sU (sU (sU (sU (sU (sU s 7 0) 8 (nI (b + 46))) 8 (nI (b + 47))) 0 (a 11 (b + 46))) 8 (nI (b + 48))) 1 (a 11 (b + 47))) _ (c := b + 48) rfl rfl (by omega)) ?_
  refine xwp_go g1 [] 100 _ _ _ _ ?_
  obtain ⟨hok, hA, hW, h0, h1, h2⟩ := hk
  have p8 := hok.1
  have p6 := hok.2.1
  refine xrv' (G := G) g2 rfl ⟨rfl, (aU (aU (aU (aU (aU (aU a 0 (cpK (a 0) (fun i => a 11 (b + i)) 0 8)) 1 (cpK (a 1) (fun i => a 11 ((b + 8) + i)) 0 8)) 2 (cpK (a 2) (fun i => a 11 ((b + 16) + i)) 0 8)) 3 (cpK (a 3) (fun i => a 11 ((b + 24) + i)) 0 8)) 4 (cpK (a 4) (fun i => a 11 ((b + 32) + i)) 0 8)) 5 (cpK (a 5) (fun i => a 11 ((b + 40) + i)) 0 6)), (sU (sU (sU (sU (sU s 7 0) 8 (nI (b + 49))) 0 (a 11 (b + 46))) 1 (a 11 (b + 47))) 2 (a 11 (b + 48))), ⟨hok, fun i hi => ?_, fun i hi => ?_, h0, h1, h2⟩, fun r h6 => ?_, fun r h3 h7 h8 => ?_, rfl⟩
  · obtain ⟨k0, k1, k2, k3, k4⟩ := hA i hi
    refine ⟨?_, ?_, ?_, ?_, ?_⟩
    · show cpK (a 0) (fun i => a 11 (b + i)) 0 8 i = _
      rw [cpK_in (i := i) (by omega) (by omega)]; exact k0
    · show cpK (a 1) (fun i => a 11 ((b + 8) + i)) 0 8 i = _
      rw [cpK_in (i := i) (by omega) (by omega)]; exact k1
    · show cpK (a 2) (fun i => a 11 ((b + 16) + i)) 0 8 i = _
      rw [cpK_in (i := i) (by omega) (by omega)]; exact k2
    · show cpK (a 3) (fun i => a 11 ((b + 24) + i)) 0 8 i = _
      rw [cpK_in (i := i) (by omega) (by omega)]; exact k3
    · show cpK (a 4) (fun i => a 11 ((b + 32) + i)) 0 8 i = _
      rw [cpK_in (i := i) (by omega) (by omega)]; exact k4
  · show cpK (a 5) (fun i => a 11 ((b + 40) + i)) 0 6 i = _
    rw [cpK_in (i := i) (by omega) (by omega)]; exact hW i hi
  · rw [aU_ne (by omega), aU_ne (by omega), aU_ne (by omega), aU_ne (by omega), aU_ne (by omega), aU_ne (by omega)]
  · rw [sU_ne (by omega), sU_ne (by omega), sU_ne (by omega), sU_ne h8, sU_ne h7]
end
section
/-! image, restore, judge, seeds: what they answer; the reference's -/
def spImage (S : SG) : Int32 × SG := (nI (S.1 6 0), S.1, (true, S.1), S.2.2)
def spRestore (S : SG) : Int32 × SG := if S.2.1.1 = false then rfs S (-3) else (nI (S.2.1.2 6 0), S.2.1.2, S.2)
def jdgL (q : LQ) (W : Nat → Nat) : Nat → Int32 × LQ
  | 0 => (-9, q)
  | k + 1 => if ¬ (jdgL q W k).1 = -9 then jdgL q W k else if showB ((jdgL q W k).2 6 0) (nI (W k)) = false then (nI k, (jdgL q W k).2) else
    (if wishB (projQ (jdgL q W k).2 (W k)) (laidQ (jdgL q W k).2 (W k) 0) = true then -9 else nI k, projQ (jdgL q W k).2 (W k))
def spJudge (S : SG) : Int32 × SG := ((jdgL S.1 S.2.2.2.1.2 S.2.2.2.1.1).1, S.1, S.2.1, S.2.2.1, (0, S.2.2.2.1.2), S.2.2.2.2)
def lcg (z : Int32) : Int32 := z * 1103515245 + 12345
def drw (z : Int32) (n : Nat) : Nat := z.toBitVec.toNat % 2 ^ 31 / 65536 % n
def sdL (q : LQ) (z : Int32) : Nat → Int32 × LQ × Nat
  | 0 => (z, q, 0)
  | k + 1 => (lcg (lcg (sdL q z k).1), projQ (sdL q z k).2.1 (2 ^ drw (lcg (sdL q z k).1) (q 6 0) ||| 2 ^ drw (lcg (lcg (sdL q z k).1)) (q 6 0)), (sdL q z k).2.2 + pop (laidQ (sdL q z k).2.1 (2 ^ drw (lcg (sdL q z k).1) (q 6 0) ||| 2 ^ drw (lcg (lcg (sdL q z k).1)) (q 6 0)) 0))
def spSeeds (S : SG) (n z : Int32) : Int32 × SG := if ¬ bndI n 1 40 = 0 then rfs S (bndI n 1 40) else if S.1 6 0 = 0 then rfs S (-3) else (nI (sdL S.1 z n.toNatClampNeg).2.2, S)
theorem projQ_6 (q : LQ) (set j : Nat) : projQ q set 6 j = q 6 j := projL_6 q set _ j
theorem projQ_ok {q : LQ} (h : okS q) (set : Nat) : okS (projQ q set) := by
  unfold projQ
  have key : ∀ i, i ≤ q 6 0 → okS (projL q set i) := by
    intro i
    induction i with
    | zero => intro _; exact h
    | succ i ih =>
      intro hi
      have := ih (by omega)
      cases hb : set.testBit i with
      | true => rw [projL_s hb]; exact wearQ_ok this (by rw [projL_6]; omega)
      | false => rw [projL_n hb]; exact this
  exact key _ (Nat.le_refl _)
theorem jdg_6 (q : LQ) (W : Nat → Nat) (j : Nat) : ∀ k, (jdgL q W k).2 6 j = q 6 j
  | 0 => rfl
  | k + 1 => by
    have ih := jdg_6 q W j k
    unfold jdgL
    split
    · exact ih
    · split
      · exact ih
      · show projQ _ _ 6 j = _
        rw [projQ_6]; exact ih
theorem jdg_ok {q : LQ} (h : okS q) (W : Nat → Nat) : ∀ k, okS (jdgL q W k).2
  | 0 => h
  | k + 1 => by
    have ih := jdg_ok h W k
    unfold jdgL
    split
    · exact ih
    · split
      · exact ih
      · exact projQ_ok ih _
theorem jdg_stay {q : LQ} {W : Nat → Nat} {k : Nat} (h : ¬ (jdgL q W k).1 = -9) : ∀ n, jdgL q W (k + n) = jdgL q W k
  | 0 => rfl
  | n + 1 => by
    have ih := jdg_stay h n
    show (if ¬ (jdgL q W (k + n)).1 = -9 then jdgL q W (k + n) else _) = _
    rw [ih, if_pos h]
theorem jdg_val (q : LQ) (W : Nat → Nat) : ∀ k, (jdgL q W k).1 = -9 ∨ ∃ j, j < k ∧ (jdgL q W k).1 = nI j
  | 0 => Or.inl rfl
  | k + 1 => by
    unfold jdgL
    split
    · rcases jdg_val q W k with h | ⟨j, hj, e⟩
      · exact Or.inl h
      · exact Or.inr ⟨j, by omega, e⟩
    · split
      · exact Or.inr ⟨k, by omega, rfl⟩
      · dsimp only
        split
        · exact Or.inl rfl
        · exact Or.inr ⟨k, by omega, rfl⟩
theorem showB_lt {n : Nat} {m : Nat} (hm : m < 2 ^ 31) (h : showB n (nI m) = true) : m < 2 ^ n := by
  unfold showB at h
  have h1 : setB n (nI m) = true := by
    cases hb : setB n (nI m) with
    | true => rfl
    | false => rw [hb] at h; cases h
  have := of_decide_eq_true h1
  rw [pk_tn (by omega)] at this
  exact this
theorem drwI (z : Int32) {n : Nat} (h0 : 0 < n) (hn : n ≤ 8) : (z &&& 2147483647) / 65536 - (z &&& 2147483647) / 65536 / nI n * nI n = nI (drw z n) := by
  rw [pk_and z 31 (by decide)]
  have h1 : z.toBitVec.toNat % 2 ^ 31 < 2 ^ 31 := Nat.mod_lt _ (by decide)
  rw [show (65536 : Int32) = nI 65536 from rfl, pk_div h1 (by decide) (by decide), pk_rem (Nat.lt_of_le_of_lt (Nat.div_le_self _ _) h1) h0 (by omega)]
  rfl
theorem drw_lt (z : Int32) {n : Nat} (h0 : 0 < n) : drw z n < n := Nat.mod_lt _ h0
theorem two_lt {a b n : Nat} (ha : a < n) (hb : b < n) : 2 ^ a ||| 2 ^ b < 2 ^ n := Nat.or_lt_two_pow (Nat.pow_lt_pow_right (by decide) ha) (Nat.pow_lt_pow_right (by decide) hb)
theorem sd_6 (q : LQ) (z : Int32) (j : Nat) : ∀ k, (sdL q z k).2.1 6 j = q 6 j
  | 0 => rfl
  | k + 1 => by
    show projQ _ _ 6 j = _
    rw [projQ_6, sd_6 q z j k]
theorem keptA_keep {q : LQ} {f F : Nat → Int32} (h : keptA q f 0) (same : ∀ j, j < 49 → F j = f j) : keptA q F 0 := by
  obtain ⟨k1, k2, k3, k4, k5, k6⟩ := h
  have p8 := k1.1
  have p6 := k1.2.1
  refine ⟨k1, fun i hi => ?_, fun i hi => ?_, ?_, ?_, ?_⟩
  · rw [same _ (by omega), same _ (by omega), same _ (by omega), same _ (by omega), same _ (by omega)]
    exact k2 i hi
  · rw [same _ (by omega)]; exact k3 i hi
  · rw [same _ (by omega)]; exact k4
  · rw [same _ (by omega)]; exact k5
  · rw [same _ (by omega)]; exact k6
theorem m_image (d : Nat) {S : SG} {a : Nat → Nat → Int32} {s : Nat → Int32} (hr : relM S a s) : xCt xMs (d + 3) nX6_image [.ref 0] (eM a s) (pMs (spImage S)) := by
  refine xV (M := mX6_image) rfl rfl rfl rfl rfl pX6_image rfl (fun G g1 g2 g3 => ?_)
  refine xwp_go g1 [] 100 _ _ _ _ ?_
  refine And.intro (Or.inr rfl) ?_
  refine xcMP (G := G) g3 (m_keepAll d (s := sU s 6 1) hr.1 (o := 0) (by decide)) (fun v w hp => ⟨_, _, hp.2.choose_spec.choose_spec.2.2.2⟩) (fun v a' s' hp => ?_)
  obtain ⟨rfl, F, s2, h1, h2, h3, h4⟩ := hp
  rw [h4]
  refine xwp_go g1 [] 100 _ _ _ _ ?_
  obtain ⟨r1, r2, r3, r4, r5, r6⟩ := hr
  have e0 : s2 0 = s 0 := h3 0 (by decide) (by decide)
  have e1 : s2 1 = s 1 := h3 1 (by decide) (by decide)
  have e2 : s2 2 = s 2 := h3 2 (by decide) (by decide)
  have e3 : s2 3 = s 3 := h3 3 (by decide) (by decide)
  have e15 : s2 15 = s 15 := h3 15 (by decide) (by decide)
  have e6 : s2 6 = 1 := h3 6 (by decide) (by decide)
  refine xri' (G := G) g2 rfl ⟨by rw [e0, r1.2.2.2.1]; rfl, aU a 11 F, s2, ⟨?_, r2, ?_, ?_, e6, fun _ => h1⟩, rfl⟩
  · obtain ⟨q1, q2, q3, q4, q5, q6⟩ := r1
    exact ⟨q1, q2, q3, by rw [e0]; exact q4, by rw [e1]; exact q5, by rw [e2]; exact q6⟩
  · rw [e3]; exact r3
  · rw [e15]; exact r4
theorem m_restore (d : Nat) {S : SG} {a : Nat → Nat → Int32} {s : Nat → Int32} (hr : relM S a s) : xCt xMs (d + 3) nX6_restore [.ref 0] (eM a s) (pMs (spRestore S)) := by
  refine xV (M := mX6_restore) rfl rfl rfl rfl rfl pX6_restore rfl (fun G g1 g2 g3 => ?_)
  unfold spRestore at g2
  refine xwp_go g1 [] 100 _ _ _ _ ?_
  refine And.intro (fun h => ?_) (fun h => ?_) <;> rw [hr.2.2.2.2.1, bI_0] at h
  · rw [if_neg h] at g2
    have hk := hr.2.2.2.2.2 (Bool.not_eq_false _ ▸ h)
    refine xcMP (G := G) g3 (m_backAll d (a := a) (s := s) (o := 0) (by decide) hk) (fun v w hp => ⟨_, _, hp.2.choose_spec.choose_spec.2.2.2⟩) (fun v a' s' hp => ?_)
    obtain ⟨rfl, a2, s2, h1, h2, h3, h4⟩ := hp
    rw [h4]
    refine xwp_go g1 [] 100 _ _ _ _ ?_
    obtain ⟨r1, r2, r3, r4, r5, r6⟩ := hr
    refine xri' (G := G) g2 rfl ⟨by rw [h1.2.2.2.1], a2, s2, ⟨h1, ?_, ?_, ?_, ?_, ?_⟩, rfl⟩
    · rw [h2 6 (by decide)]; exact r2
    · rw [h2 7 (by decide), h3 3 (by decide) (by decide) (by decide)]; exact r3
    · rw [h2 15 (by decide), h3 15 (by decide) (by decide) (by decide)]; exact r4
    · rw [h3 6 (by decide) (by decide) (by decide)]; exact r5
    · rw [h2 11 (by decide)]; exact r6
  · rw [if_pos h] at g2
    refine xcMW (G := G) g3 (m_no (d + 1) a s (why := -3) (k := 3) (by decide) (by decide)) ?_
    refine xwp_go g1 [] 100 _ _ _ _ ?_
    exact xri' (G := G) g2 rfl ⟨rfl, _, s, relM_no (k := 3) hr, rfl⟩
theorem m_judge (d : Nat) {S : SG} {a : Nat → Nat → Int32} {s : Nat → Int32} (hr : relM S a s) : xCt xMs (d + 5) nX6_judge [.ref 0] (eM a s) (pMs (spJudge S)) := by
  obtain ⟨r1, r2, r3, ⟨r4, r40, r41⟩, r5, r6⟩ := hr
  have hl := lt256 r1.1
  refine xV (M := mX6_judge) rfl rfl rfl rfl rfl pX6_judge rfl (fun G g1 g2 g3 => ?_)
  refine xwp_go g1 [] 100 _ _ _ _ ?_
  refine xcMP (G := G) g3 (m_keepAll (d + 2) (s := sU s 15 0) r1 (o := 1) (by decide)) (fun v w hp => ⟨_, _, hp.2.choose_spec.choose_spec.2.2.2⟩) (fun v a' s' hp => ?_)
  obtain ⟨rfl, F, s2, h1, h2, h3, h4⟩ := hp
  rw [h4]
  have e0 : s2 0 = s 0 := h3 0 (by decide) (by decide)
  have e1 : s2 1 = s 1 := h3 1 (by decide) (by decide)
  have e2 : s2 2 = s 2 := h3 2 (by decide) (by decide)
  have e3 : s2 3 = s 3 := h3 3 (by decide) (by decide)
  have e15 : s2 15 = 0 := h3 15 (by decide) (by decide)
  have e6 : s2 6 = s 6 := h3 6 (by decide) (by decide)
  have hrel : relS S.1 (aU a 11 F) s2 := by
    obtain ⟨q1, q2, q3, q4, q5, q6⟩ := r1
    exact ⟨q1, q2, q3, by rw [e0]; exact q4, by rw [e1]; exact q5, by rw [e2]; exact q6⟩
  have leave : ∀ (y : Int32) (z : Option Value) (a1 : Nat → Nat → Int32), y = (jdgL S.1 S.2.2.2.1.2 S.2.2.2.1.1).1 → sameM (aU a 11 F) a1 → G 68 [some (.ref 0), some (.int (s 15)), some (.int y), z] [] (eM a1 s2) := by
    intro y z a1 hy hsm
    have e11 : a1 11 = F := hsm 11 (by decide)
    refine xwp_go g1 [] 100 _ _ _ _ ?_
    refine xcMP (G := G) g3 (m_backAll (d + 2) (q := S.1) (a := a1) (s := s2) (o := 1) (by decide) (by rw [e11]; exact h1)) (fun v w hp => ⟨_, _, hp.2.choose_spec.choose_spec.2.2.2⟩) (fun v a' s' hp => ?_)
    obtain ⟨rfl, a3, s3, g4, g5, g6, g7⟩ := hp
    rw [g7]
    refine xwp_go g1 [] 100 _ _ _ _ ?_
    have em : ∀ r, 6 ≤ r → r ≠ 11 → a3 r = a r := fun r h hne => by rw [g5 r h, hsm r h]; exact aU_ne hne
    refine xri' (G := G) g2 rfl ⟨by rw [hy]; rfl, a3, s3, ⟨g4, ?_, ?_, ⟨?_, Nat.zero_le _, fun i hi => absurd hi (Nat.not_lt_zero i)⟩, ?_, fun hh => ?_⟩, rfl⟩
    · rw [em 6 (by decide) (by decide)]; exact r2
    · rw [em 7 (by decide) (by decide), g6 3 (by decide) (by decide) (by decide), e3]; exact r3
    · rw [g6 15 (by decide) (by decide) (by decide)]; exact e15
    · rw [g6 6 (by decide) (by decide) (by decide), e6]; exact r5
    · rw [g5 11 (by decide), e11]
      exact keptA_keep (r6 hh) (fun j hj => h2 j (Or.inl (by omega)))
  refine xwp_go g1 [21] 100 _ _ _ _ ?_
  refine up (k := S.2.2.2.1.1) (P := fun k => ∀ x y a1, x = nI k → y = (jdgL S.1 S.2.2.2.1.2 k).1 → relS (jdgL S.1 S.2.2.2.1.2 k).2 a1 s2 → sameM (aU a 11 F) a1 → G 21 [some (.ref 0), some (.int (s 15)), some (.int y), some (.int x)] [] (eM a1 s2)) ?_ ?_ 0 (Nat.zero_le _) _ _ _ rfl rfl hrel (fun _ _ => rfl)
  · intro x y a1 hx hy hq hsm
    subst hx
    refine xwp_go g1 [21, 68] 100 _ _ _ _ ?_
    refine And.intro (fun _ => leave _ _ _ hy hsm) (fun h => ?_)
    rw [r4] at h
    exact absurd (nI_le (Nat.le_refl _) (by omega)) h
  · intro k hk ih x y a1 hx hy hq hsm
    subst hx
    have es : jdgL S.1 S.2.2.2.1.2 (k + 1) = if ¬ (jdgL S.1 S.2.2.2.1.2 k).1 = -9 then jdgL S.1 S.2.2.2.1.2 k else if showB ((jdgL S.1 S.2.2.2.1.2 k).2 6 0) (nI (S.2.2.2.1.2 k)) = false then (nI k, (jdgL S.1 S.2.2.2.1.2 k).2) else
    (if wishB (projQ (jdgL S.1 S.2.2.2.1.2 k).2 (S.2.2.2.1.2 k)) (laidQ (jdgL S.1 S.2.2.2.1.2 k).2 (S.2.2.2.1.2 k) 0) = true then -9 else nI k, projQ (jdgL S.1 S.2.2.2.1.2 k).2 (S.2.2.2.1.2 k)) := rfl
    refine xwp_go g1 [21, 68] 100 _ _ _ _ ?_
    refine And.intro (fun h => ?_) (fun _ => ?_)
    · rw [r4] at h
      exact absurd h (nI_ge hk (by omega))
    refine And.intro (fun h => ?_) (fun h => ?_)
    · refine leave _ _ _ ?_ hsm
      have hne : ¬ (jdgL S.1 S.2.2.2.1.2 k).1 = -9 := fun e => by rw [hy, e] at h; exact absurd h (by decide)
      have := jdg_stay hne (S.2.2.2.1.1 - k)
      rw [show k + (S.2.2.2.1.1 - k) = S.2.2.2.1.1 by omega] at this
      rw [this]; exact hy
    have he : (jdgL S.1 S.2.2.2.1.2 k).1 = -9 := by
      rcases jdg_val S.1 S.2.2.2.1.2 k with e | ⟨j, hj, e⟩
      · exact e
      · rw [hy, e] at h
        exact absurd (nI_pos' (by omega)) h
    rw [if_neg (fun z => z he)] at es
    have hin : vp_in (nI k) 12 := vp_in_nI (by omega) (by decide)
    have hW : a1 15 (nI k).toNatClampNeg = nI (S.2.2.2.1.2 k) := by
      rw [nI_clamp (by omega), hsm 15 (by decide), aU_ne (by decide)]
      exact (r41 k hk).1
    have hW255 := (r41 k hk).2
    refine And.intro hin ?_
    refine xcM (G := G) g3 (agr1 hW (m_isShow (d + 2) hq (nI (S.2.2.2.1.2 k)))) ?_
    refine xwp_go g1 [21, 68] 100 _ _ _ _ ?_
    refine And.intro (fun h' => ?_) (fun h' => ?_) <;> rw [bI_0] at h'
    · rw [if_pos h'] at es
      exact ih _ _ a1 (nI_1 k) (by rw [es]) (by rw [es]; exact hq) hsm
    · rw [if_neg h'] at es
      have hlt := showB_lt (by omega) (Bool.not_eq_false _ ▸ h')
      rw [jdg_6] at hlt
      refine And.intro hin ?_
      refine xcMP (G := G) g3 (agr1 hW (m_projects d hq (set := S.2.2.2.1.2 k) (by omega))) (fun v w hp => ⟨_, _, hp.2.choose_spec.2.2⟩) (fun v a' s' hp => ?_)
      obtain ⟨rfl, a4, q4, q5, q6⟩ := hp
      rw [q6]
      refine xwp_go g1 [21, 68] 100 _ _ _ _ ?_
      refine xcM (G := G) g3 (m_isWish (d + 3) q4 (laidQ_lt hq.1 _ _)) ?_
      refine xwp_go g1 [21, 68] 100 _ _ _ _ ?_
      have hsm4 : sameM (aU a 11 F) a4 := fun r h => by rw [q5 r h, hsm r h]
      refine And.intro (fun h5 => ?_) (fun h5 => ?_) <;> rw [bI_0] at h5
      · rw [if_pos (Bool.not_eq_false _ ▸ h5)] at es
        refine ih _ _ a4 (nI_1 k) ?_ (by rw [es]; exact q4) hsm4
        rw [es, hy, he]
      · rw [if_neg (by rw [h5]; decide)] at es
        exact ih _ _ a4 (nI_1 k) (by rw [es]) (by rw [es]; exact q4) hsm4
theorem m_seeds (d : Nat) {S : SG} {a : Nat → Nat → Int32} {s : Nat → Int32} (hr : relM S a s) (n z : Int32) : xCt xMs (d + 5) nX6_seeds [.ref 0, .int n, .int z] (eM a s) (pMs (spSeeds S n z)) := by
  have hr' := hr
  obtain ⟨r1, r2, r3, r4, r5, r6⟩ := hr
  have hl := lt256 r1.1
  have p8 := r1.1.1
  refine xV (M := mX6_seeds) rfl rfl rfl rfl rfl pX6_seeds rfl (fun G g1 g2 g3 => ?_)
  unfold spSeeds at g2
  refine xwp_go g1 [] 100 _ _ _ _ ?_
  refine xcallR (G := G) g3 [] (m_bound (d + 3) [] n 1 40) ?_
  refine xwp_go g1 [] 100 _ _ _ _ ?_
  refine And.intro (fun h => ?_) (fun h => ?_)
  · rw [if_pos h] at g2
    refine And.intro (fun h' => absurd h' h) (fun _ => ?_)
    refine xcMW (G := G) g3 (m_no (d + 3) a s (bnd_k h).1 (bnd_k h).2) ?_
    refine xwp_go g1 [] 100 _ _ _ _ ?_
    exact xri' (G := G) g2 rfl ⟨rfl, _, s, relM_no hr', rfl⟩
  rw [if_neg (fun z => z h)] at g2
  obtain ⟨nn, hn1, hn40, rfl⟩ := bnd_0 (l := 1) (m := 40) (by decide) (by decide) h
  refine And.intro (fun h0 => ?_) (fun h0 => ?_) <;> rw [r1.2.2.2.1, show (0 : Int32) = nI 0 from rfl, nI_eq (by omega) (by decide)] at h0
  · rw [if_neg h0, nI_clamp (by omega)] at g2
    refine And.intro (fun _ => ?_) (fun h' => absurd h h')
    generalize bndI (nI nn) 1 40 = why
    refine xcMP (G := G) g3 (m_keepAll (d + 2) (s := s) r1 (o := 1) (by decide)) (fun v w hp => ⟨_, _, hp.2.choose_spec.choose_spec.2.2.2⟩) (fun v a' s' hp => ?_)
    obtain ⟨rfl, F, s2, h1, h2, h3, h4⟩ := hp
    rw [h4]
    have e0 : s2 0 = s 0 := h3 0 (by decide) (by decide)
    have e1 : s2 1 = s 1 := h3 1 (by decide) (by decide)
    have e2 : s2 2 = s 2 := h3 2 (by decide) (by decide)
    have hrel : relS S.1 (aU a 11 F) s2 := by
      obtain ⟨q1, q2, q3, q4, q5, q6⟩ := r1
      exact ⟨q1, q2, q3, by rw [e0]; exact q4, by rw [e1]; exact q5, by rw [e2]; exact q6⟩
    have hs0 : s2 0 = nI (S.1 6 0) := by rw [e0]; exact r1.2.2.2.1
    refine xwp_go g1 [47] 100 _ _ _ _ ?_
    refine up (k := nn) (P := fun k => ∀ x y zz a1 u7 u8, x = nI k → zz = (sdL S.1 z k).1 → y = nI (sdL S.1 z k).2.2 → relS (sdL S.1 z k).2.1 a1 s2 → sameM (aU a 11 F) a1 → G 47 [some (.ref 0), some (.int (nI nn)), some (.int z), some (.int why), some (.int zz), some (.int y), some (.int x), u7, u8] [] (eM a1 s2)) ?_ ?_ 0 (Nat.zero_le _) _ _ _ _ _ _ rfl rfl rfl hrel (fun _ _ => rfl)
    · intro x y zz a1 u7 u8 hx hz hy hq hsm
      subst hx; subst hy; subst hz
      have e11 : a1 11 = F := hsm 11 (by decide)
      refine xwp_go g1 [47] 100 _ _ _ _ ?_
      refine And.intro (fun _ => ?_) (fun h => absurd (nI_le (Nat.le_refl _) (by omega)) h)
      refine xcMP (G := G) g3 (m_backAll (d + 2) (q := S.1) (a := a1) (s := s2) (o := 1) (by decide) (by rw [e11]; exact h1)) (fun v w hp => ⟨_, _, hp.2.choose_spec.choose_spec.2.2.2⟩) (fun v a' s' hp => ?_)
      obtain ⟨rfl, a3, s3, g4, g5, g6, g7⟩ := hp
      rw [g7]
      refine xwp_go g1 [] 100 _ _ _ _ ?_
      have em : ∀ r, 6 ≤ r → r ≠ 11 → a3 r = a r := fun r h hne => by rw [g5 r h, hsm r h]; exact aU_ne hne
      have es : ∀ r, 3 ≤ r → r ≠ 7 → r ≠ 8 → s3 r = s r := fun r h h7 h8 => by rw [g6 r h h7 h8, h3 r h7 h8]
      refine xri' (G := G) g2 rfl ⟨rfl, a3, s3, ⟨g4, ?_, ?_, ?_, ?_, fun hh => ?_⟩, rfl⟩
      · rw [em 6 (by decide) (by decide)]; exact r2
      · rw [em 7 (by decide) (by decide), es 3 (by decide) (by decide) (by decide)]; exact r3
      · rw [em 15 (by decide) (by decide), es 15 (by decide) (by decide) (by decide)]; exact r4
      · rw [es 6 (by decide) (by decide) (by decide)]; exact r5
      · rw [g5 11 (by decide), e11]
        exact keptA_keep (r6 hh) (fun j hj => h2 j (Or.inl (by omega)))
    · intro k hk ih x y zz a1 u7 u8 hx hz hy hq hsm
      subst hx; subst hy; subst hz
      refine xwp_go g1 [47] 100 _ _ _ _ ?_
      refine And.intro (fun h => absurd h (nI_ge hk (by omega))) (fun _ => ?_)
      have hne : ¬ s2 0 = 0 := by rw [hs0]; exact nI_ne0 (by omega) (by omega)
      refine And.intro (by decide) (And.intro hne (And.intro (by decide) (And.intro hne ?_)))
      have d1 := drw_lt (lcg (sdL S.1 z k).1) (n := S.1 6 0) (by omega)
      have d2 := drw_lt (lcg (lcg (sdL S.1 z k).1)) (n := S.1 6 0) (by omega)
      have hset := two_lt d1 d2
      have eset : (1 : Int32) <<< (((lcg (sdL S.1 z k).1 &&& 2147483647) / 65536 - (lcg (sdL S.1 z k).1 &&& 2147483647) / 65536 / s2 0 * s2 0) &&& 31) ||| (1 : Int32) <<< (((lcg (lcg (sdL S.1 z k).1) &&& 2147483647) / 65536 - (lcg (lcg (sdL S.1 z k).1) &&& 2147483647) / 65536 / s2 0 * s2 0) &&& 31) = nI (2 ^ drw (lcg (sdL S.1 z k).1) (S.1 6 0) ||| 2 ^ drw (lcg (lcg (sdL S.1 z k).1)) (S.1 6 0)) := by
        rw [hs0, drwI _ (by omega) p8, drwI _ (by omega) p8, nI_pow (by omega), nI_pow (by omega), fa_or]
      refine xcMP (G := G) g3 (agr1 eset (m_projects d hq (by omega))) (fun v w hp => ⟨_, _, hp.2.choose_spec.2.2⟩) (fun v a' s' hp => ?_)
      obtain ⟨rfl, a4, q4, q5, q6⟩ := hp
      rw [q6]
      refine xwp_go g1 [47] 100 _ _ _ _ ?_
      refine xcallR (G := G) g3 [] (m_bits (d + 3) [] (laidQ_lt hq.1 _ _)) ?_
      refine xwp_go g1 [47] 100 _ _ _ _ ?_
      exact ih _ _ _ a4 _ _ (nI_1 k) rfl (by rw [nI_add]; rfl) q4 (fun r h => by rw [q5 r h, hsm r h])
  · rw [if_pos h0] at g2
    refine And.intro (fun h' => absurd h' (by decide)) (fun _ => ?_)
    refine xcMW (G := G) g3 (m_no (d + 3) a s (why := -3) (k := 3) (by decide) (by decide)) ?_
    refine xwp_go g1 [] 100 _ _ _ _ ?_
    exact xri' (G := G) g2 rfl ⟨rfl, _, s, relM_no (k := 3) hr', rfl⟩
end
section
/-! fewest, cheapest, near, can, worth: by going through all sets and all that is turned over; the reference's -/
def subB (o s : Nat) : Bool := decide (o ^^^ (o &&& s) = 0)
def rowE (s : Nat) (k : Nat) : List (Nat × Nat) := ((List.range k).filter (fun o => subB o s)).map (fun o => (s, o))
def preE (k : Nat) : List (Nat × Nat) := (List.range k).flatMap (fun s => rowE s (s + 1))
def allE (n : Nat) : List (Nat × Nat) := preE (2 ^ n)
/-- nearness; cheapest; fewest: how many, the set, turned over, ways -/
abbrev FT : Type := Nat × Option Nat × Option (Nat × Nat × Nat × Nat)
def tell (q : LQ) (p : Nat) (T : FT) (e : Nat × Nat) : FT :=
  let un := pop (laidQ q e.1 e.2 ^^^ p)
  let nr := if un < T.1 then un else T.1
  if 0 < un then (nr, T.2.1, T.2.2) else
  (nr, (match T.2.1 with
    | none => some (costL q e.1 (q 6 0))
    | some c => some (if costL q e.1 (q 6 0) < c then costL q e.1 (q 6 0) else c)),
   match T.2.2 with
    | none => some (pop e.1, e.1, e.2, 1)
    | some (k, s, o, w) => if k < pop e.1 then some (k, s, o, w) else if pop e.1 = k then some (k, s, o, w + 1) else some (pop e.1, e.1, e.2, 1))
def findQ (q : LQ) (p : Nat) : FT := (allE (q 6 0)).foldl (tell q p) (16, none, none)
def optI (x : Option Nat) : Int32 := match x with
  | none => -9
  | some c => nI c
def fewI (x : Option (Nat × Nat × Nat × Nat)) (w : Nat) : Int32 := match x with
  | none => -9
  | some (k, s, o, c) => match w with
    | 0 => nI k
    | 1 => nI s
    | 2 => nI o
    | _ => nI c
/-- the numbers that findShown leaves -/
def encT (T : FT) (s : Nat → Int32) : Prop := s 14 = nI T.1 ∧ s 13 = optI T.2.1 ∧ s 9 = fewI T.2.2 0 ∧ s 10 = fewI T.2.2 1 ∧ s 11 = fewI T.2.2 2 ∧ s 12 = fewI T.2.2 3
def okT (T : FT) : Prop := T.1 ≤ 16 ∧ (∀ c, T.2.1 = some c → c ≤ 1000) ∧ ∀ k s o w, T.2.2 = some (k, s, o, w) → k ≤ 16
theorem cost_le {q : LQ} (h : okS q) (set : Nat) : ∀ n, n ≤ q 6 0 → costL q set n ≤ 99 * n
  | 0, _ => Nat.le_refl _
  | n + 1, hn => by
    have ih := cost_le h set n (by omega)
    have := (h.2.2.2.2.1 n (by omega)).2.2.2.1
    show costL q set n + (if set.testBit n then q 3 n else 0) ≤ 99 * (n + 1)
    split <;> omega
theorem tell_ok {q : LQ} (h : okS q) {p : Nat} {T : FT} (hT : okT T) (e : Nat × Nat) : okT (tell q p T e) := by
  obtain ⟨h1, h2, h3⟩ := hT
  have hc := cost_le h e.1 (q 6 0) (Nat.le_refl _)
  have h8 := h.1
  have hp := pop_le e.1
  have hu := pop_le (laidQ q e.1 e.2 ^^^ p)
  unfold tell
  dsimp only
  split
  · exact ⟨by show (if _ then _ else _) ≤ 16; split <;> omega, h2, h3⟩
  · refine ⟨by show (if _ then _ else _) ≤ 16; split <;> omega, fun c hcc => ?_, fun k s o w hk => ?_⟩
    · dsimp only at hcc
      split at hcc
      · cases hcc; omega
      · next c0 hc0 =>
        have := h2 c0 hc0
        cases hcc
        split <;> omega
    · dsimp only at hk
      split at hk
      · cases hk; omega
      · next k0 s0 o0 w0 hk0 =>
        have := h3 _ _ _ _ hk0
        split at hk
        · cases hk; exact this
        · split at hk
          · cases hk; exact this
          · cases hk; exact hp
theorem m_tellsShown (d : Nat) {q : LQ} {a : Nat → Nat → Int32} {s : Nat → Int32} (hr : relS q a s) {p set over : Nat} (hp : p < 65536) (hs : set < 256) (ho : over < 256) {T : FT} (hT : encT T s) (hk : okT T) : xCt xMs (d + 4) nX6_tellsShown [.ref 0, .int (nI p), .int (nI set), .int (nI over)] (eM a s) (fun v w => v = none ∧ ∃ s', encT (tell q p T (set, over)) s' ∧ (∀ r, r < 9 ∨ 15 ≤ r → s' r = s r) ∧ w = eM a s') := by
  obtain ⟨t14, t13, t9, t10, t11, t12⟩ := hT
  obtain ⟨k1, k2, k3⟩ := hk
  have h8 := hr.1.1
  have hla := laidQ_lt hr.1 set over
  have hx : laidQ q set over ^^^ p < 65536 := Nat.xor_lt_two_pow (n := 16) hla hp
  have hu := pop_le (laidQ q set over ^^^ p)
  have hc := cost_le hr.1 set (q 6 0) (Nat.le_refl _)
  have hps := pop_le set
  have ex : nI (laidQ q set over) ^^^ nI p = nI (laidQ q set over ^^^ p) := fb_xorI _ _
  refine xV (M := mX6_tellsShown) rfl rfl rfl rfl rfl pX6_tellsShown rfl (fun G g1 g2 g3 => ?_)
  unfold tell at g2
  dsimp only at g2
  refine xwp_go g1 [] 100 _ _ _ _ ?_
  refine xcM (G := G) g3 (m_laid d hr (set := set) (over := over) (by omega) (by omega)) ?_
  refine xwp_go g1 [] 100 _ _ _ _ ?_
  refine xcallR (G := G) g3 [] (ag1 ex (m_bits (d + 2) [] hx)) ?_
  generalize pop (laidQ q set over ^^^ p) = un at g2 hu
  have tail : ∀ (v : Int32) (z5 z6 : Option Value), v = nI (if un < T.1 then un else T.1) → G 35 [some (.ref 0), some (.int (nI p)), some (.int (nI set)), some (.int (nI over)), some (.int (nI un)), z5, z6] [] (eM a (sU s 14 v)) := by
    intro v z5 z6 hv
    refine xwp_go g1 [] 100 _ _ _ _ ?_
    refine And.intro (fun h => ?_) (fun h => ?_) <;> rw [show (0 : Int32) = nI 0 from rfl, nI_leI (by omega) (by decide)] at h
    · rw [if_neg (show ¬ 0 < un by omega)] at g2
      refine xcM (G := G) g3 (m_pricesOf (d + 2) (s := sU s 14 v) hr (set := set) (by omega)) ?_
      generalize costL q set (q 6 0) = co at g2 hc
      have tail2 : ∀ (u : Int32) (z6 : Option Value), u = optI (match T.2.1 with
          | none => some co
          | some c => some (if co < c then co else c)) → G 77 [some (.ref 0), some (.int (nI p)), some (.int (nI set)), some (.int (nI over)), some (.int (nI un)), some (.int (nI co)), z6] [] (eM a (sU (sU s 14 v) 13 u)) := by
        intro u z6 hu'
        refine xwp_go g1 [] 100 _ _ _ _ ?_
        refine xcallR (G := G) g3 [] (m_bits (d + 2) [] (p := set) (by omega)) ?_
        refine xwp_go g1 [] 100 _ _ _ _ ?_
        have keep : ∀ (s' : Nat → Int32), (s' = sU (sU s 14 v) 13 u) → ∀ r, r < 9 ∨ 15 ≤ r → s' r = s r := by
          intro s' e r hr9
          rw [e, sU_ne (by omega), sU_ne (by omega)]
        have keep4 : ∀ (x9 x10 x11 x12 : Int32), ∀ r, r < 9 ∨ 15 ≤ r → sU (sU (sU (sU (sU (sU s 14 v) 13 u) 9 x9) 10 x10) 11 x11) 12 x12 r = s r := by
          intro x9 x10 x11 x12 r hr9
          rw [sU_ne (by omega), sU_ne (by omega), sU_ne (by omega), sU_ne (by omega), sU_ne (by omega), sU_ne (by omega)]
        cases hf : T.2.2 with
        | none =>
          rw [hf] at g2 t9 t10 t11 t12
          refine And.intro (fun _ => ?_) (fun h => absurd (show s 9 < 0 by rw [t9]; decide) h)
          refine And.intro (fun _ => ?_) (fun h => ?_)
          · refine xrv' (G := G) g2 rfl ⟨rfl, sU (sU (sU (sU (sU (sU s 14 v) 13 u) 9 (nI (pop set))) 10 (nI set)) 11 (nI over)) 12 1, ⟨hv, hu', rfl, rfl, rfl, rfl⟩, keep4 _ _ _ _, rfl⟩
          · have h : nI (pop set) = s 9 := h
            rw [t9] at h
            have := nI_pos (n := pop set) (by omega)
            rw [h] at this
            exact absurd (by decide) this
        | some t =>
          obtain ⟨k, s0, o0, w0⟩ := t
          rw [hf] at g2 t9 t10 t11 t12
          have hk16 := k3 _ _ _ _ hf
          have t9 : s 9 = nI k := t9
          refine And.intro (fun h => absurd (show s 9 < 0 from h) (by rw [t9]; exact nI_pos (by omega))) (fun _ => ?_)
          refine And.intro (fun h => ?_) (fun h => ?_)
          · have h : nI (pop set) ≤ s 9 := h
            rw [t9, nI_leI (by omega) (by omega)] at h
            dsimp only at g2
            rw [if_neg (show ¬ k < pop set by omega)] at g2
            refine And.intro (fun h' => ?_) (fun h' => ?_)
            · have h' : ¬ nI (pop set) = s 9 := h'
              rw [t9, nI_eq (by omega) (by omega)] at h'
              rw [if_neg h'] at g2
              exact xrv' (G := G) g2 rfl ⟨rfl, sU (sU (sU (sU (sU (sU s 14 v) 13 u) 9 (nI (pop set))) 10 (nI set)) 11 (nI over)) 12 1, ⟨hv, hu', rfl, rfl, rfl, rfl⟩, keep4 _ _ _ _, rfl⟩
            · have h' : nI (pop set) = s 9 := h'
              rw [t9, nI_eq (by omega) (by omega)] at h'
              rw [if_pos h'] at g2
              refine xrv' (G := G) g2 rfl ⟨rfl, sU (sU (sU s 14 v) 13 u) 12 (s 12 + 1), ⟨hv, hu', t9, t10, t11, ?_⟩, fun r hr9 => ?_, rfl⟩
              · show s 12 + 1 = nI (w0 + 1)
                rw [t12]
                exact nI_1 w0
              · rw [sU_ne (by omega), sU_ne (by omega), sU_ne (by omega)]
          · have h : ¬ nI (pop set) ≤ s 9 := h
            rw [t9, nI_leI (by omega) (by omega)] at h
            dsimp only at g2
            rw [if_pos (show k < pop set by omega)] at g2
            exact xrv' (G := G) g2 rfl ⟨rfl, sU (sU s 14 v) 13 u, ⟨hv, hu', t9, t10, t11, t12⟩, keep _ rfl, rfl⟩
      refine xwp_go g1 [77] 100 _ _ _ _ ?_
      cases hch : T.2.1 with
      | none =>
        rw [hch] at t13 tail2
        refine And.intro (fun _ => ?_) (fun h => absurd (show s 13 < 0 by rw [t13]; decide) h)
        exact tail2 (nI co) _ rfl
      | some c =>
        rw [hch] at t13 tail2
        have hc10 := k2 c hch
        have t13 : s 13 = nI c := t13
        refine And.intro (fun h => absurd (show s 13 < 0 from h) (by rw [t13]; exact nI_pos (by omega))) (fun _ => ?_)
        refine And.intro (fun h => ?_) (fun h => ?_)
        · have h : s 13 ≤ nI co := h
          rw [t13, nI_leI (by omega) (by omega)] at h
          exact tail2 (s 13) _ (by dsimp only; rw [if_neg (by omega)]; exact t13)
        · have h : ¬ s 13 ≤ nI co := h
          rw [t13, nI_leI (by omega) (by omega)] at h
          exact tail2 (nI co) _ (by dsimp only; rw [if_pos (by omega)]; rfl)
    · rw [if_pos (show 0 < un by omega)] at g2
      refine xrv' (G := G) g2 rfl ⟨rfl, sU s 14 v, ⟨hv, t13, t9, t10, t11, t12⟩, fun r hr9 => sU_ne (by omega), rfl⟩
  refine xwp_go g1 [35] 100 _ _ _ _ ?_
  refine And.intro (fun h => ?_) (fun h => ?_) <;> rw [t14, nI_leI (by omega) (by omega)] at h
  · exact tail (s 14) _ _ (by rw [if_neg (by omega)]; exact t14)
  · exact tail (nI un) _ _ (by rw [if_pos (by omega)])
theorem fold_ok {q : LQ} (h : okS q) {p : Nat} : ∀ (l : List (Nat × Nat)) (T : FT), okT T → okT (l.foldl (tell q p) T)
  | [], _, hT => hT
  | e :: l, T, hT => fold_ok h l _ (tell_ok h hT e)
theorem T0_ok : okT (16, none, none) := ⟨Nat.le_refl _, fun c hc => (by cases hc), fun k s o w hk => (by cases hk)⟩
theorem rowE_s {s k : Nat} (h : subB k s = true) : rowE s (k + 1) = rowE s k ++ [(s, k)] := by
  unfold rowE
  rw [List.range_succ, List.filter_append, List.map_append]
  simp [h]
theorem rowE_n {s k : Nat} (h : subB k s = false) : rowE s (k + 1) = rowE s k := by
  unfold rowE
  rw [List.range_succ, List.filter_append, List.map_append]
  simp [h]
theorem preE_s (k : Nat) : preE (k + 1) = preE k ++ rowE k (k + 1) := by
  unfold preE
  rw [List.range_succ, List.flatMap_append]
  simp
theorem m_findShown (d : Nat) {q : LQ} {a : Nat → Nat → Int32} {s : Nat → Int32} (hr : relS q a s) {p : Nat} (hp : p < 65536) : xCt xMs (d + 5) nX6_findShown [.ref 0, .int (nI p)] (eM a s) (fun v w => v = none ∧ ∃ s', encT (findQ q p) s' ∧ (∀ r, r < 9 ∨ 15 ≤ r → s' r = s r) ∧ w = eM a s') := by
  have h8 := hr.1.1
  have hl := lt256 hr.1
  have h0 := hr.2.2.2.1
  refine xV (M := mX6_findShown) rfl rfl rfl rfl rfl pX6_findShown rfl (fun G g1 g2 g3 => ?_)
  refine xwp_go g1 [38] 100 _ _ _ _ ?_
  refine up (k := 2 ^ q 6 0) (P := fun i => ∀ x z s1, x = nI i → encT ((preE i).foldl (tell q p) (16, none, none)) s1 → (∀ r, r < 9 ∨ 15 ≤ r → s1 r = s r) → G 38 [some (.ref 0), some (.int (nI p)), some (.int x), z] [] (eM a s1)) ?_ ?_ 0 (Nat.zero_le _) _ _ (sU (sU (sU (sU (sU (sU s 9 (-9)) 10 (-9)) 11 (-9)) 12 (-9)) 13 (-9)) 14 16) rfl ⟨rfl, rfl, rfl, rfl, rfl, rfl⟩ (fun r hr9 => by rw [sU_ne (by omega), sU_ne (by omega), sU_ne (by omega), sU_ne (by omega), sU_ne (by omega), sU_ne (by omega)])
  · intro x z s1 hx hT hs1
    subst hx
    have e0 : s1 0 = nI (q 6 0) := by rw [hs1 0 (by omega)]; exact h0
    refine xwp_go g1 [38] 100 _ _ _ _ ?_
    refine And.intro (fun _ => ?_) (fun h => ?_)
    · exact xrv' (G := G) g2 rfl ⟨rfl, s1, hT, hs1, rfl⟩
    · rw [e0, nI_pow (by omega)] at h
      exact absurd (nI_le (Nat.le_refl _) (by omega)) h
  · intro i hi ih x z s1 hx hT hs1
    subst hx
    have e0 : s1 0 = nI (q 6 0) := by rw [hs1 0 (by omega)]; exact h0
    refine xwp_go g1 [50] 100 _ _ _ _ ?_
    refine And.intro (fun h => ?_) (fun _ => ?_)
    · rw [e0, nI_pow (by omega)] at h
      exact absurd h (nI_ge hi (by omega))
    refine up (k := i + 1) (P := fun o => ∀ x s1, x = nI o → encT ((preE i ++ rowE i o).foldl (tell q p) (16, none, none)) s1 → (∀ r, r < 9 ∨ 15 ≤ r → s1 r = s r) → G 50 [some (.ref 0), some (.int (nI p)), some (.int (nI i)), some (.int x)] [] (eM a s1)) ?_ ?_ 0 (Nat.zero_le _) _ s1 rfl (by rw [show rowE i 0 = [] from rfl, List.append_nil]; exact hT) hs1
    · intro x s1 hx hT hs1
      subst hx
      refine xwp_go g1 [38, 50] 100 _ _ _ _ ?_
      refine And.intro (fun _ => ?_) (fun h => absurd (nI_lt (Nat.lt_succ_self i) (by omega)) h)
      exact ih _ _ s1 (nI_1 i) (by rw [preE_s]; exact hT) hs1
    · intro o ho iho x s1 hx hT hs1
      subst hx
      refine xwp_go g1 [38, 50] 100 _ _ _ _ ?_
      refine And.intro (fun h => absurd h (nI_nlt (by omega) (by omega))) (fun _ => ?_)
      have hlt : o ^^^ (o &&& i) < 256 := Nat.xor_lt_two_pow (n := 8) (show o < 2 ^ 8 by omega) (Nat.lt_of_le_of_lt Nat.and_le_left (show o < 2 ^ 8 by omega))
      refine And.intro (fun h => ?_) (fun h => ?_) <;> rw [nI_andn, show (0 : Int32) = nI 0 from rfl, nI_eq (by omega) (by decide)] at h
      · exact iho _ s1 (nI_1 o) (by rw [rowE_n (decide_eq_false h)]; exact hT) hs1
      · have hrel : relS q a s1 := by
          obtain ⟨q1, q2, q3, q4, q5, q6⟩ := hr
          exact ⟨q1, q2, q3, by rw [hs1 0 (by omega)]; exact q4, by rw [hs1 1 (by omega)]; exact q5, by rw [hs1 2 (by omega)]; exact q6⟩
        refine xcMP (G := G) g3 (m_tellsShown d hrel hp (set := i) (over := o) (by omega) (by omega) hT (fold_ok hr.1 _ _ T0_ok)) (fun v w hp => ⟨_, _, hp.2.choose_spec.2.2⟩) (fun v a' s' hpp => ?_)
        obtain ⟨rfl, s2, t1, t2, t3⟩ := hpp
        rw [t3]
        refine xwp_go g1 [38, 50] 100 _ _ _ _ ?_
        refine iho _ s2 (nI_1 o) ?_ (fun r hr9 => by rw [t2 r hr9, hs1 r hr9])
        rw [rowE_s (decide_eq_true h), ← List.append_assoc, List.foldl_append]
        exact t1
end
section
/-! fewest, cheapest, near, can, worth of the reference -/
def spFewest (S : SG) (p w : Int32) : Int32 × SG := if inB w 0 3 = false then rfs S (-2) else if ¬ bndI p 0 65535 = 0 then rfs S (bndI p 0 65535) else (fewI (findQ S.1 p.toNatClampNeg).2.2 w.toNatClampNeg, S)
def spCheapest (S : SG) (p : Int32) : Int32 × SG := if ¬ bndI p 0 65535 = 0 then rfs S (bndI p 0 65535) else (optI (findQ S.1 p.toNatClampNeg).2.1, S)
def spNear (S : SG) (p : Int32) : Int32 × SG := if ¬ bndI p 0 65535 = 0 then rfs S (bndI p 0 65535) else (nI (findQ S.1 p.toNatClampNeg).1, S)
theorem relM_s {S : SG} {a : Nat → Nat → Int32} {s s' : Nat → Int32} (h : relM S a s) (hs : ∀ r, r < 9 ∨ 15 ≤ r → s' r = s r) : relM S a s' := by
  obtain ⟨⟨q1, q2, q3, q4, q5, q6⟩, h2, h3, h4, h5, h6⟩ := h
  exact ⟨⟨q1, q2, q3, by rw [hs 0 (by omega)]; exact q4, by rw [hs 1 (by omega)]; exact q5, by rw [hs 2 (by omega)]; exact q6⟩, h2, by rw [hs 3 (by omega)]; exact h3, by rw [hs 15 (by omega)]; exact h4, by rw [hs 6 (by omega)]; exact h5, h6⟩
theorem m_cheapest (d : Nat) {S : SG} {a : Nat → Nat → Int32} {s : Nat → Int32} (hr : relM S a s) (p : Int32) : xCt xMs (d + 6) nX6_cheapest [.ref 0, .int p] (eM a s) (pMs (spCheapest S p)) := by
  refine xV (M := mX6_cheapest) rfl rfl rfl rfl rfl pX6_cheapest rfl (fun G g1 g2 g3 => ?_)
  unfold spCheapest at g2
  refine xwp_go g1 [] 100 _ _ _ _ ?_
  refine xcallR (G := G) g3 [] (m_bound (d + 4) [] p 0 65535) ?_
  refine xwp_go g1 [] 100 _ _ _ _ ?_
  refine And.intro (fun h => ?_) (fun h => ?_)
  · rw [if_neg (fun z => z h)] at g2
    obtain ⟨m, -, hm, rfl⟩ := bnd_0 (l := 0) (m := 65535) (by decide) (by decide) h
    rw [nI_clamp (by omega)] at g2
    refine xcMP (G := G) g3 (m_findShown d hr.1 (p := m) (by omega)) (fun v w hp => ⟨_, _, hp.2.choose_spec.2.2⟩) (fun v a' s' hpp => ?_)
    obtain ⟨rfl, s2, t1, t2, t3⟩ := hpp
    rw [t3]
    refine xwp_go g1 [] 100 _ _ _ _ ?_
    exact xri' (G := G) g2 rfl ⟨by rw [t1.2.1], a, s2, relM_s hr t2, rfl⟩
  · rw [if_pos h] at g2
    refine xcMW (G := G) g3 (m_no (d + 4) a s (bnd_k h).1 (bnd_k h).2) ?_
    refine xwp_go g1 [] 100 _ _ _ _ ?_
    exact xri' (G := G) g2 rfl ⟨rfl, _, s, relM_no hr, rfl⟩
theorem m_near (d : Nat) {S : SG} {a : Nat → Nat → Int32} {s : Nat → Int32} (hr : relM S a s) (p : Int32) : xCt xMs (d + 6) nX6_near [.ref 0, .int p] (eM a s) (pMs (spNear S p)) := by
  refine xV (M := mX6_near) rfl rfl rfl rfl rfl pX6_near rfl (fun G g1 g2 g3 => ?_)
  unfold spNear at g2
  refine xwp_go g1 [] 100 _ _ _ _ ?_
  refine xcallR (G := G) g3 [] (m_bound (d + 4) [] p 0 65535) ?_
  refine xwp_go g1 [] 100 _ _ _ _ ?_
  refine And.intro (fun h => ?_) (fun h => ?_)
  · rw [if_neg (fun z => z h)] at g2
    obtain ⟨m, -, hm, rfl⟩ := bnd_0 (l := 0) (m := 65535) (by decide) (by decide) h
    rw [nI_clamp (by omega)] at g2
    refine xcMP (G := G) g3 (m_findShown d hr.1 (p := m) (by omega)) (fun v w hp => ⟨_, _, hp.2.choose_spec.2.2⟩) (fun v a' s' hpp => ?_)
    obtain ⟨rfl, s2, t1, t2, t3⟩ := hpp
    rw [t3]
    refine xwp_go g1 [] 100 _ _ _ _ ?_
    exact xri' (G := G) g2 rfl ⟨by rw [t1.1], a, s2, relM_s hr t2, rfl⟩
  · rw [if_pos h] at g2
    refine xcMW (G := G) g3 (m_no (d + 4) a s (bnd_k h).1 (bnd_k h).2) ?_
    refine xwp_go g1 [] 100 _ _ _ _ ?_
    exact xri' (G := G) g2 rfl ⟨rfl, _, s, relM_no hr, rfl⟩
theorem m_fewest (d : Nat) {S : SG} {a : Nat → Nat → Int32} {s : Nat → Int32} (hr : relM S a s) (p w : Int32) : xCt xMs (d + 6) nX6_fewest [.ref 0, .int p, .int w] (eM a s) (pMs (spFewest S p w)) := by
  refine xV (M := mX6_fewest) rfl rfl rfl rfl rfl pX6_fewest rfl (fun G g1 g2 g3 => ?_)
  unfold spFewest at g2
  refine xwp_go g1 [] 100 _ _ _ _ ?_
  refine xcallR (G := G) g3 [] (m_isIn (d + 4) [] w 0 3) ?_
  refine xwp_go g1 [] 100 _ _ _ _ ?_
  refine And.intro (fun hw => ?_) (fun hw => ?_) <;> rw [bI_0] at hw
  · rw [if_neg hw] at g2
    obtain ⟨k, -, hk, rfl⟩ := inB_of (l := 0) (m := 3) (by decide) (by decide) (Bool.not_eq_false _ ▸ hw)
    refine xcallR (G := G) g3 [] (m_bound (d + 4) [] p 0 65535) ?_
    refine xwp_go g1 [] 100 _ _ _ _ ?_
    refine And.intro (fun h => ?_) (fun h => ?_)
    · rw [if_neg (fun z => z h)] at g2
      obtain ⟨m, -, hm, rfl⟩ := bnd_0 (l := 0) (m := 65535) (by decide) (by decide) h
      rw [nI_clamp (by omega), nI_clamp (by omega)] at g2
      refine xcMP (G := G) g3 (m_findShown d hr.1 (p := m) (by omega)) (fun v w hp => ⟨_, _, hp.2.choose_spec.2.2⟩) (fun v a' s' hpp => ?_)
      obtain ⟨rfl, s2, t1, t2, t3⟩ := hpp
      rw [t3]
      refine xwp_go g1 [] 100 _ _ _ _ ?_
      refine And.intro (fun h1 => ?_) (fun h1 => ?_) <;> rw [show (0 : Int32) = nI 0 from rfl, nI_eq (by omega) (by decide)] at h1
      · refine And.intro (fun h2 => ?_) (fun h2 => ?_) <;> rw [show (1 : Int32) = nI 1 from rfl, nI_eq (by omega) (by decide)] at h2
        · refine And.intro (fun h3 => ?_) (fun h3 => ?_) <;> rw [show (2 : Int32) = nI 2 from rfl, nI_eq (by omega) (by decide)] at h3
          · exact xri' (G := G) g2 rfl ⟨by rw [t1.2.2.2.2.2, show k = 3 by omega], a, s2, relM_s hr t2, rfl⟩
          · exact xri' (G := G) g2 rfl ⟨by rw [t1.2.2.2.2.1, h3], a, s2, relM_s hr t2, rfl⟩
        · exact xri' (G := G) g2 rfl ⟨by rw [t1.2.2.2.1, h2], a, s2, relM_s hr t2, rfl⟩
      · exact xri' (G := G) g2 rfl ⟨by rw [t1.2.2.1, h1], a, s2, relM_s hr t2, rfl⟩
    · rw [if_pos h] at g2
      refine xcMW (G := G) g3 (m_no (d + 4) a s (bnd_k h).1 (bnd_k h).2) ?_
      refine xwp_go g1 [] 100 _ _ _ _ ?_
      exact xri' (G := G) g2 rfl ⟨rfl, _, s, relM_no hr, rfl⟩
  · rw [if_pos hw] at g2
    refine xcMW (G := G) g3 (m_no (d + 4) a s (why := -2) (k := 2) (by decide) (by decide)) ?_
    refine xwp_go g1 [] 100 _ _ _ _ ?_
    exact xri' (G := G) g2 rfl ⟨rfl, _, s, relM_no (k := 2) hr, rfl⟩
/-- without a slide, or with all -/
def okx (x : Option Nat) (set : Nat) : Bool := match x with
  | none => true
  | some i => !set.testBit i
def hitE (q : LQ) (x : Option Nat) (p : Nat) (e : Nat × Nat) : Bool := okx x e.1 && (laidQ q e.1 e.2 == p)
def canN (q : LQ) (x : Option Nat) : Nat → Nat
  | 0 => 0
  | i + 1 => canN q x i ||| (if (allE (q 6 0)).any (hitE q x (q 5 i)) then 2 ^ i else 0)
theorem canN_tb (q : LQ) (x : Option Nat) : ∀ k j, (canN q x k).testBit j = (decide (j < k) && (allE (q 6 0)).any (hitE q x (q 5 j)))
  | 0, j => by simp [canN]
  | k + 1, j => by
    show (canN q x k ||| (if (allE (q 6 0)).any (hitE q x (q 5 k)) then 2 ^ k else 0)).testBit j = _
    rw [Nat.testBit_or, canN_tb q x k j]
    by_cases e : j = k
    · subst e
      cases h : (allE (q 6 0)).any (hitE q x (q 5 j)) <;> simp
    · have : (if (allE (q 6 0)).any (hitE q x (q 5 k)) = true then 2 ^ k else 0).testBit j = false := by
        split
        · rw [Nat.testBit_two_pow]; exact decide_eq_false (fun z => e z.symm)
        · exact Nat.zero_testBit j
      rw [this, Bool.or_false]
      congr 1
      exact decide_eq_decide.mpr (by omega)
theorem canN_lt (q : LQ) (x : Option Nat) (k : Nat) : canN q x k < 2 ^ k := Nat.lt_pow_two_of_testBit _ (fun i hi => by rw [canN_tb]; simp; omega)
/-- the bits that come of the pairs gone through -/
def isCan (q : LQ) (x : Option Nat) (V : List (Nat × Nat)) (y : Nat) : Prop := ∀ j, y.testBit j = (decide (j < q 6 1) && V.any (hitE q x (q 5 j)))
theorem m_canWithout (d : Nat) {q : LQ} {a : Nat → Nat → Int32} {s : Nat → Int32} (hr : relS q a s) {sl : Int32} {x : Option Nat} (hx : (sl = -1 ∧ x = none) ∨ ∃ i, i < q 6 0 ∧ sl = nI i ∧ x = some i) : xCt xMs (d + 4) nX6_canWithout [.ref 0, .int sl] (eM a s) (xRet (nI (canN q x (q 6 1))) (eM a s)) := by
  have h8 := hr.1.1
  have h6 := hr.1.2.1
  have hl := lt256 hr.1
  have h0 := hr.2.2.2.1
  have h1 := hr.2.2.2.2.1
  have hok := hr.1
  refine xV (M := mX6_canWithout) rfl rfl rfl rfl rfl pX6_canWithout rfl (fun G g1 g2 g3 => ?_)
  refine xwp_go g1 [4] 100 _ _ _ _ ?_
  refine up (k := 2 ^ q 6 0) (P := fun i => ∀ u y z4 z5 z6, u = nI i → isCan q x (preE i) y → G 4 [some (.ref 0), some (.int sl), some (.int (nI y)), some (.int u), z4, z5, z6] [] (eM a s)) ?_ ?_ 0 (Nat.zero_le _) _ 0 _ _ _ rfl (fun j => by rw [Nat.zero_testBit, show preE 0 = [] from rfl]; simp)
  · intro u y z4 z5 z6 hu hy
    subst hu
    refine xwp_go g1 [4] 100 _ _ _ _ ?_
    refine And.intro (fun _ => ?_) (fun h => ?_)
    · refine xri (G := G) g2 rfl ?_ rfl
      refine congrArg nI (Nat.eq_of_testBit_eq (fun j => ?_))
      rw [hy j, canN_tb]; rfl
    · rw [h0, nI_pow (by omega)] at h
      exact absurd (nI_le (Nat.le_refl _) (by omega)) h
  · intro i hi ih u y z4 z5 z6 hu hy
    subst hu
    have skip : okx x i = false → G 107 [some (.ref 0), some (.int sl), some (.int (nI y)), some (.int (nI i)), z4, z5, z6] [] (eM a s) := by
      intro hk
      refine xwp_go g1 [4] 100 _ _ _ _ ?_
      refine ih _ y _ _ _ (nI_1 i) (fun j => ?_)
      rw [hy j, preE_s, List.any_append]
      have : (rowE i (i + 1)).any (hitE q x (q 5 j)) = false := by
        rw [List.any_eq_false]
        intro e he
        unfold rowE at he
        obtain ⟨o, -, rfl⟩ := List.mem_map.mp he
        simp [hitE, hk]
      rw [this, Bool.or_false]
    have body : okx x i = true → G 30 [some (.ref 0), some (.int sl), some (.int (nI y)), some (.int (nI i)), z4, z5, z6] [] (eM a s) := by
      intro hk
      refine xwp_go g1 [33] 100 _ _ _ _ ?_
      refine up (k := i + 1) (P := fun o => ∀ u y z5 z6, u = nI o → isCan q x (preE i ++ rowE i o) y → G 33 [some (.ref 0), some (.int sl), some (.int (nI y)), some (.int (nI i)), some (.int u), z5, z6] [] (eM a s)) ?_ ?_ 0 (Nat.zero_le _) _ y _ _ rfl (fun j => by rw [show rowE i 0 = [] from rfl, List.append_nil]; exact hy j)
      · intro u y z5 z6 hu hy
        subst hu
        refine xwp_go g1 [4, 33] 100 _ _ _ _ ?_
        refine And.intro (fun _ => ?_) (fun h => absurd (nI_lt (Nat.lt_succ_self i) (by omega)) h)
        exact ih _ y _ _ _ (nI_1 i) (by rw [preE_s]; exact hy)
      · intro o ho iho u y z5 z6 hu hy
        subst hu
        refine xwp_go g1 [4, 33] 100 _ _ _ _ ?_
        refine And.intro (fun h => absurd h (nI_nlt (by omega) (by omega))) (fun _ => ?_)
        have hlt : o ^^^ (o &&& i) < 256 := Nat.xor_lt_two_pow (n := 8) (show o < 2 ^ 8 by omega) (Nat.lt_of_le_of_lt Nat.and_le_left (show o < 2 ^ 8 by omega))
        refine And.intro (fun h => ?_) (fun h => ?_) <;> rw [nI_andn, show (0 : Int32) = nI 0 from rfl, nI_eq (by omega) (by decide)] at h
        · refine xcM (G := G) g3 (m_laid d hr (set := i) (over := o) (by omega) (by omega)) ?_
          have hla := laidQ_lt hok i o
          refine xwp_go g1 [4, 33, 63] 100 _ _ _ _ ?_
          refine up (k := q 6 1) (P := fun w => ∀ u v y, u = nI w → v = nI y → (∀ j, y.testBit j = (decide (j < q 6 1) && ((preE i ++ rowE i o).any (hitE q x (q 5 j)) || (decide (j < w) && hitE q x (q 5 j) (i, o))))) → G 63 [some (.ref 0), some (.int sl), some (.int v), some (.int (nI i)), some (.int (nI o)), some (.int (nI (laidQ q i o))), some (.int u)] [] (eM a s)) ?_ ?_ 0 (Nat.zero_le _) _ _ y rfl rfl (fun j => by rw [hy j]; simp)
          · intro u v y hu hv hy
            subst hu; subst hv
            refine xwp_go g1 [4, 33, 63] 100 _ _ _ _ ?_
            refine And.intro (fun _ => ?_) (fun h => ?_)
            · refine iho _ y _ _ (nI_1 o) (fun j => ?_)
              rw [hy j, rowE_s (decide_eq_true h), ← List.append_assoc, List.any_append (ys := [(i, o)])]
              by_cases hj : j < q 6 1 <;> simp [hj]
            · rw [h1] at h
              exact absurd (nI_le (Nat.le_refl _) (by omega)) h
          · intro w hw ihw u v y hu hv hy
            subst hu; subst hv
            have hb := hok.2.2.2.2.2 w hw
            refine xwp_go g1 [4, 33, 63] 100 _ _ _ _ ?_
            refine And.intro (fun h => ?_) (fun _ => ?_)
            · rw [h1] at h
              exact absurd h (nI_ge hw (by omega))
            refine And.intro (vp_in_nI (by omega) (by decide)) ?_
            have e5 : a 5 (nI w).toNatClampNeg = nI (q 5 w) := by rw [nI_clamp (by omega), hr.2.2.1 w hw]
            refine And.intro (fun h => ?_) (fun h => ?_) <;> rw [e5, nI_eq (by omega) (by omega)] at h
            · have hno : hitE q x (q 5 w) (i, o) = false := by
                unfold hitE
                simp only
                rw [show (laidQ q i o == q 5 w) = false from by simpa using (fun z => h z.symm), Bool.and_false]
              refine ihw _ _ (y ||| 0) (nI_1 w) (by rw [show (0 : Int32) = nI 0 from rfl, fa_or]) (fun j => ?_)
              rw [Nat.or_zero, hy j]
              by_cases e : j = w
              · subst e
                rw [hno]; simp
              · rw [show decide (j < w + 1) = decide (j < w) from decide_eq_decide.mpr (by omega)]
            · have hyes : hitE q x (q 5 w) (i, o) = true := by
                unfold hitE
                simp only
                rw [hk, h]; simp
              refine ihw _ _ (y ||| 2 ^ w) (nI_1 w) (by rw [nI_pow (by omega), fa_or]) (fun j => ?_)
              rw [Nat.testBit_or, hy j, Nat.testBit_two_pow]
              by_cases e : j = w
              · subst e
                rw [hyes]; simp [hw]
              · rw [show decide (j < w + 1) = decide (j < w) from decide_eq_decide.mpr (by omega), decide_eq_false (fun z : w = j => e z.symm), Bool.or_false]
        · exact iho _ y _ _ (nI_1 o) (by rw [rowE_n (decide_eq_false h)]; exact hy)
    refine xwp_go g1 [107, 30] 100 _ _ _ _ ?_
    refine And.intro (fun h => ?_) (fun _ => ?_)
    · rw [h0, nI_pow (by omega)] at h
      exact absurd h (nI_ge hi (by omega))
    rcases hx with ⟨rfl, rfl⟩ | ⟨k, hk, rfl, rfl⟩
    · exact And.intro (fun _ => body rfl) (fun h => absurd (by decide) h)
    · refine And.intro (fun h => absurd h (nI_pos (by omega))) (fun _ => ?_)
      refine And.intro (fun h => ?_) (fun h => ?_) <;> rw [nI_bit1 (by omega) (by omega)] at h
      · exact body (by show (!i.testBit k) = true; simpa using h)
      · exact skip (by show (!i.testBit k) = false; rw [h]; rfl)
def spCan (S : SG) (x : Int32) : Int32 × SG := if x = -1 then (nI (canN S.1 none (S.1 6 1)), S) else if hasB (S.1 6 0) x = false then rfs S (-1) else (nI (canN S.1 (some x.toNatClampNeg) (S.1 6 1)), S)
def spWorth (S : SG) (x : Int32) : Int32 × SG := if hasB (S.1 6 0) x = false then rfs S (-1) else (nI (pop (canN S.1 none (S.1 6 1))) - nI (pop (canN S.1 (some x.toNatClampNeg) (S.1 6 1))), S)
theorem m_can (d : Nat) {S : SG} {a : Nat → Nat → Int32} {s : Nat → Int32} (hr : relM S a s) (x : Int32) : xCt xMs (d + 5) nX6_can [.ref 0, .int x] (eM a s) (pMs (spCan S x)) := by
  have h8 := hr.1.1.1
  refine xV (M := mX6_can) rfl rfl rfl rfl rfl pX6_can rfl (fun G g1 g2 g3 => ?_)
  unfold spCan at g2
  refine xwp_go g1 [] 100 _ _ _ _ ?_
  refine And.intro (fun h => ?_) (fun h => ?_)
  · rw [if_pos h] at g2
    refine xcM (G := G) g3 (m_canWithout d hr.1 (Or.inl ⟨h, rfl⟩)) ?_
    refine xwp_go g1 [] 100 _ _ _ _ ?_
    exact xri' (G := G) g2 rfl ⟨rfl, a, s, hr, rfl⟩
  · rw [if_neg h] at g2
    refine xcM (G := G) g3 (m_isSlide (d + 3) hr.1 x) ?_
    refine xwp_go g1 [] 100 _ _ _ _ ?_
    refine And.intro (fun h' => ?_) (fun h' => ?_) <;> rw [bI_0] at h'
    · rw [if_pos h'] at g2
      refine xcMW (G := G) g3 (m_no (d + 3) a s (why := -1) (k := 1) (by decide) (by decide)) ?_
      refine xwp_go g1 [] 100 _ _ _ _ ?_
      exact xri' (G := G) g2 rfl ⟨rfl, _, s, relM_no (k := 1) hr, rfl⟩
    · rw [if_neg h'] at g2
      obtain ⟨i, hi, rfl⟩ := hasB_of (by omega) (Bool.not_eq_false _ ▸ h')
      rw [nI_clamp (by omega)] at g2
      refine xcM (G := G) g3 (m_canWithout d hr.1 (Or.inr ⟨i, hi, rfl, rfl⟩)) ?_
      refine xwp_go g1 [] 100 _ _ _ _ ?_
      exact xri' (G := G) g2 rfl ⟨rfl, a, s, hr, rfl⟩
theorem canN_16 {q : LQ} (h : okS q) (x : Option Nat) : canN q x (q 6 1) < 65536 := by
  have h6 := h.2.1
  have h1 := canN_lt q x (q 6 1)
  have h2 : (2 : Nat) ^ q 6 1 ≤ 2 ^ 16 := Nat.pow_le_pow_right (by decide) (by omega)
  omega
theorem m_worth (d : Nat) {S : SG} {a : Nat → Nat → Int32} {s : Nat → Int32} (hr : relM S a s) (x : Int32) : xCt xMs (d + 5) nX6_worth [.ref 0, .int x] (eM a s) (pMs (spWorth S x)) := by
  have h8 := hr.1.1.1
  refine xV (M := mX6_worth) rfl rfl rfl rfl rfl pX6_worth rfl (fun G g1 g2 g3 => ?_)
  unfold spWorth at g2
  refine xwp_go g1 [] 100 _ _ _ _ ?_
  refine xcM (G := G) g3 (m_isSlide (d + 3) hr.1 x) ?_
  refine xwp_go g1 [] 100 _ _ _ _ ?_
  refine And.intro (fun h' => ?_) (fun h' => ?_) <;> rw [bI_0] at h'
  · rw [if_pos h'] at g2
    refine xcMW (G := G) g3 (m_no (d + 3) a s (why := -1) (k := 1) (by decide) (by decide)) ?_
    refine xwp_go g1 [] 100 _ _ _ _ ?_
    exact xri' (G := G) g2 rfl ⟨rfl, _, s, relM_no (k := 1) hr, rfl⟩
  · rw [if_neg h'] at g2
    obtain ⟨i, hi, rfl⟩ := hasB_of (by omega) (Bool.not_eq_false _ ▸ h')
    rw [nI_clamp (by omega)] at g2
    refine xcM (G := G) g3 (m_canWithout d hr.1 (sl := -1) (Or.inl ⟨rfl, rfl⟩)) ?_
    refine xwp_go g1 [] 100 _ _ _ _ ?_
    refine xcallR (G := G) g3 [] (m_bits (d + 3) [] (canN_16 hr.1.1 none)) ?_
    refine xwp_go g1 [] 100 _ _ _ _ ?_
    refine xcM (G := G) g3 (m_canWithout d hr.1 (Or.inr ⟨i, hi, rfl, rfl⟩)) ?_
    refine xwp_go g1 [] 100 _ _ _ _ ?_
    refine xcallR (G := G) g3 [] (m_bits (d + 3) [] (canN_16 hr.1.1 (some i))) ?_
    refine xwp_go g1 [] 100 _ _ _ _ ?_
    exact xri' (G := G) g2 rfl ⟨rfl, a, s, hr, rfl⟩
end
section
/-! the class's whole world: rows A (0 .. 5 now, 6 .. 11 mind, 12 .. 17 kept, 18 signs, 19 .. 22 search, 23 .. 25 tour, 26 rowSets, 27 refusals), numbers N (0 .. 2 now, 3 .. 5 mind, 6 .. 8 kept, 9 told, 10 .. 16 search, 17 rowSize, 18 isKept) -/
def eX (A : Nat → Nat → Int32) (N : Nat → Int32) : xH := [.inr (4, [.ref 1, .ref 8, .ref 15, .int (N 18), .ref 22, .ref 24, .ref 29, .ref 33, .int (N 17), .ref 34]),
  .inr (0, [.ref 2, .ref 3, .ref 4, .ref 5, .ref 6, .ref 7, .int (N 0), .int (N 1), .int (N 2)]), .inl (8, A 0), .inl (8, A 1), .inl (8, A 2), .inl (8, A 3), .inl (8, A 4), .inl (6, A 5),
  .inr (0, [.ref 9, .ref 10, .ref 11, .ref 12, .ref 13, .ref 14, .int (N 3), .int (N 4), .int (N 5)]), .inl (8, A 6), .inl (8, A 7), .inl (8, A 8), .inl (8, A 9), .inl (8, A 10), .inl (6, A 11),
  .inr (0, [.ref 16, .ref 17, .ref 18, .ref 19, .ref 20, .ref 21, .int (N 6), .int (N 7), .int (N 8)]), .inl (8, A 12), .inl (8, A 13), .inl (8, A 14), .inl (8, A 15), .inl (8, A 16), .inl (6, A 17),
  .inr (1, [.ref 23, .int (N 9)]), .inl (80, A 18),
  .inr (2, [.ref 25, .ref 26, .ref 27, .ref 28, .int (N 10), .int (N 11), .int (N 12), .int (N 13), .int (N 14), .int (N 15), .int (N 16)]), .inl (8, A 19), .inl (8, A 20), .inl (8, A 21), .inl (9, A 22),
  .inr (3, [.ref 30, .ref 31, .ref 32]), .inl (4, A 23), .inl (256, A 24), .inl (4096, A 25), .inl (12, A 26), .inl (7, A 27)]
/-- a run of rows, of numbers put in place -/
def ptA (A : Nat → Nat → Int32) (o n : Nat) (a : Nat → Nat → Int32) : Nat → Nat → Int32 := fun r => cond (Nat.ble o r && Nat.blt r (o + n)) (a (r - o)) (A r)
def ptN (N : Nat → Int32) (o n : Nat) (s : Nat → Int32) : Nat → Int32 := fun r => cond (Nat.ble o r && Nat.blt r (o + n)) (s (r - o)) (N r)
theorem ptA_out {A a : Nat → Nat → Int32} {o n r : Nat} (h : r < o ∨ o + n ≤ r) : ptA A o n a r = A r := by
  unfold ptA
  have : (Nat.ble o r && Nat.blt r (o + n)) = false := by
    rw [Bool.and_eq_false_iff]
    rcases h with h | h
    · exact Or.inl (by rw [Bool.eq_false_iff]; exact fun z => by have := Nat.le_of_ble_eq_true z; omega)
    · exact Or.inr (by rw [Bool.eq_false_iff]; exact fun z => by have := Nat.le_of_ble_eq_true z; omega)
  rw [this]; rfl
theorem ptN_out {N s : Nat → Int32} {o n r : Nat} (h : r < o ∨ o + n ≤ r) : ptN N o n s r = N r := by
  unfold ptN
  have : (Nat.ble o r && Nat.blt r (o + n)) = false := by
    rw [Bool.and_eq_false_iff]
    rcases h with h | h
    · exact Or.inl (by rw [Bool.eq_false_iff]; exact fun z => by have := Nat.le_of_ble_eq_true z; omega)
    · exact Or.inr (by rw [Bool.eq_false_iff]; exact fun z => by have := Nat.le_of_ble_eq_true z; omega)
  rw [this]; rfl
abbrev offA (A : Nat → Nat → Int32) (o : Nat) : Nat → Nat → Int32 := fun r => A (o + r)
abbrev ofN (N : Nat → Int32) (o : Nat) : Nat → Int32 := fun r => N (o + r)
abbrev pX : List Nat := [0, 1, 2, 3, 4, 5, 6, 7, 8, 9, 10, 11, 12, 13, 14, 15, 16, 17, 18, 19, 20, 21, 22, 23, 24, 25, 26, 27, 28, 29, 30, 31, 32, 33, 34]
abbrev pNow : List Nat := [1, 2, 3, 4, 5, 6, 7]
abbrev pMind : List Nat := [8, 9, 10, 11, 12, 13, 14]
theorem xsubX (A : Nat → Nat → Int32) (N : Nat → Int32) : xsub pX (eX A N) (eX A N) := rfl
theorem xput_id {n : Nat} {w w' : xH} (hn : va_nd (List.range n) = true) (h1 : w.length = n) (h2 : w'.length = n) (hr : w'.map (xrE (List.range n)) = w') : xput (List.range n) (List.range n) w' w = w' := by
  apply List.ext_getElem?
  intro k
  by_cases hk : k < n
  · have e : w'[k]? = some w'[k] := List.getElem?_eq_getElem (by omega)
    have h3 := xput_in (List.range n) (List.range n) w' w k k w'[k] hn (by rw [List.getElem?_range hk]) e (by omega)
    rw [xnth_eq] at h3
    rw [h3]
    have h4 : (w'.map (xrE (List.range n)))[k]? = some (xrE (List.range n) w'[k]) := by rw [List.getElem?_map, e]; rfl
    rw [hr] at h4
    exact h4.symm
  · rw [List.getElem?_eq_none (by rw [xput_len]; omega), List.getElem?_eq_none (by omega)]
theorem xputX (A A' : Nat → Nat → Int32) (N N' : Nat → Int32) : xput pX pX (eX A' N') (eX A N) = eX A' N' := by
  have e : pX = List.range 35 := by decide
  rw [e]
  exact xput_id (by decide) rfl rfl rfl
theorem xsubNow (A : Nat → Nat → Int32) (N : Nat → Int32) : xsub pNow (eL A N) (eX A N) := rfl
theorem xputNow (A a : Nat → Nat → Int32) (N s : Nat → Int32) : xput pNow pNow (eL a s) (eX A N) = eX (ptA A 0 6 a) (ptN N 0 3 s) := rfl
theorem xsubMind (A : Nat → Nat → Int32) (N : Nat → Int32) : xsub pMind (eL (offA A 6) (ofN N 3)) (eX A N) := rfl
theorem xputMind (A a : Nat → Nat → Int32) (N s : Nat → Int32) : xput pMind pMind (eL a s) (eX A N) = eX (ptA A 6 6 a) (ptN N 3 3 s) := rfl
section XX
variable {tb : xT} {G : xK} {Cl : Nat → List Value → xH → xPost → Prop}
/-- calls: on the whole world (nothing changes; another world), on the lantern now, on the lantern in mind -/
theorem xcX {pc x n c : Nat} {M : xM} {v0 : Int32} {j : Int64} {loc : xL} {st rest : List Value} {A : Nat → Nat → Int32} {N : Nat → Int32} {as : List Value} {r : Int32} (g3 : xG3 xMs tb Cl G) (hC : Cl c as (eX A N) (xRet r (eX A N))) (k : G (pc + 3) loc (.int r :: rest) (eX A N)) (hM : xnth xMs c = some M := by rfl) (hi : xlk tb pc = some ((match M.2.2.2.2.2.2 with | true => .invokestatic x | false => .invokevirtual x), n, [(v0, c)], j) := by rfl)
    (hst : st = (as.map (xrV pX)).reverse ++ rest := by rfl) (hr : Nat.ble (xcat rest) 8 = true := by rfl) : G pc loc st (eX A N) := xcallR g3 pX hC k hM hi hst hr rfl (xsubX A N)
theorem xcXW {pc x n c : Nat} {M : xM} {v0 : Int32} {j : Int64} {loc : xL} {st rest : List Value} {A A' : Nat → Nat → Int32} {N N' : Nat → Int32} {as : List Value} {r : Int32} (g3 : xG3 xMs tb Cl G) (hC : Cl c as (eX A N) (xRet r (eX A' N'))) (k : G (pc + 3) loc (.int r :: rest) (eX A' N')) (hM : xnth xMs c = some M := by rfl) (hi : xlk tb pc = some ((match M.2.2.2.2.2.2 with | true => .invokestatic x | false => .invokevirtual x), n, [(v0, c)], j) := by rfl)
    (hst : st = (as.map (xrV pX)).reverse ++ rest := by rfl) (hr : Nat.ble (xcat rest) 8 = true := by rfl) : G pc loc st (eX A N) := xcallW g3 pX hC (by rw [xputX]; exact k) hM hi hst hr rfl (xsubX A N)
theorem xcN {pc x n c : Nat} {M : xM} {v0 : Int32} {j : Int64} {loc : xL} {st rest : List Value} {A : Nat → Nat → Int32} {N : Nat → Int32} {as : List Value} {r : Int32} (g3 : xG3 xMs tb Cl G) (hC : Cl c as (eL A N) (xRet r (eL A N))) (k : G (pc + 3) loc (.int r :: rest) (eX A N)) (hM : xnth xMs c = some M := by rfl) (hi : xlk tb pc = some ((match M.2.2.2.2.2.2 with | true => .invokestatic x | false => .invokevirtual x), n, [(v0, c)], j) := by rfl)
    (hst : st = (as.map (xrV pNow)).reverse ++ rest := by rfl) (hr : Nat.ble (xcat rest) 8 = true := by rfl) : G pc loc st (eX A N) := xcallR g3 pNow hC k hM hi hst hr rfl (xsubNow A N)
theorem xcNP {pc x n c : Nat} {M : xM} {v0 : Int32} {j : Int64} {loc : xL} {st rest : List Value} {A : Nat → Nat → Int32} {N : Nat → Int32} {as : List Value} {PC : xPost} (g3 : xG3 xMs tb Cl G) (hC : Cl c as (eL A N) PC) (hPC : ∀ v w, PC v w → ∃ a' s', w = eL a' s') (k : ∀ v a' s', PC v (eL a' s') → G (pc + 3) loc (v.toList ++ rest) (eX (ptA A 0 6 a') (ptN N 0 3 s'))) (hM : xnth xMs c = some M := by rfl) (hi : xlk tb pc = some ((match M.2.2.2.2.2.2 with | true => .invokestatic x | false => .invokevirtual x), n, [(v0, c)], j) := by rfl)
    (hst : st = (as.map (xrV pNow)).reverse ++ rest := by rfl) (hr : Nat.ble (xcat rest) 8 = true := by rfl) : G pc loc st (eX A N) := by
  refine xcall g3 pNow hC (fun v wc' hp _ => ?_) hM hi hst hr rfl (xsubNow A N)
  obtain ⟨a', s', rfl⟩ := hPC v wc' hp
  rw [xputNow]
  exact k v a' s' hp
theorem xcD {pc x n c : Nat} {M : xM} {v0 : Int32} {j : Int64} {loc : xL} {st rest : List Value} {A : Nat → Nat → Int32} {N : Nat → Int32} {as : List Value} {r : Int32} (g3 : xG3 xMs tb Cl G) (hC : Cl c as (eL (offA A 6) (ofN N 3)) (xRet r (eL (offA A 6) (ofN N 3)))) (k : G (pc + 3) loc (.int r :: rest) (eX A N)) (hM : xnth xMs c = some M := by rfl) (hi : xlk tb pc = some ((match M.2.2.2.2.2.2 with | true => .invokestatic x | false => .invokevirtual x), n, [(v0, c)], j) := by rfl)
    (hst : st = (as.map (xrV pMind)).reverse ++ rest := by rfl) (hr : Nat.ble (xcat rest) 8 = true := by rfl) : G pc loc st (eX A N) := xcallR g3 pMind hC k hM hi hst hr rfl (xsubMind A N)
theorem xcDP {pc x n c : Nat} {M : xM} {v0 : Int32} {j : Int64} {loc : xL} {st rest : List Value} {A : Nat → Nat → Int32} {N : Nat → Int32} {as : List Value} {PC : xPost} (g3 : xG3 xMs tb Cl G) (hC : Cl c as (eL (offA A 6) (ofN N 3)) PC) (hPC : ∀ v w, PC v w → ∃ a' s', w = eL a' s') (k : ∀ v a' s', PC v (eL a' s') → G (pc + 3) loc (v.toList ++ rest) (eX (ptA A 6 6 a') (ptN N 3 3 s'))) (hM : xnth xMs c = some M := by rfl) (hi : xlk tb pc = some ((match M.2.2.2.2.2.2 with | true => .invokestatic x | false => .invokevirtual x), n, [(v0, c)], j) := by rfl)
    (hst : st = (as.map (xrV pMind)).reverse ++ rest := by rfl) (hr : Nat.ble (xcat rest) 8 = true := by rfl) : G pc loc st (eX A N) := by
  refine xcall g3 pMind hC (fun v wc' hp _ => ?_) hM hi hst hr rfl (xsubMind A N)
  obtain ⟨a', s', rfl⟩ := hPC v wc' hp
  rw [xputMind]
  exact k v a' s' hp
end XX
def relX (S : SG) (A : Nat → Nat → Int32) (N : Nat → Int32) : Prop := relS S.1 A N ∧ (∀ k, 1 ≤ k → k ≤ 6 → A 27 k = S.2.2.2.2 k) ∧ (N 9 = nI S.2.2.1.1 ∧ S.2.2.1.1 ≤ 80 ∧ ∀ i, i < S.2.2.1.1 → A 18 i = nI (S.2.2.1.2 i) ∧ S.2.2.1.2 i ≤ 255) ∧
  (N 17 = nI S.2.2.2.1.1 ∧ S.2.2.2.1.1 ≤ 12 ∧ ∀ i, i < S.2.2.2.1.1 → A 26 i = nI (S.2.2.2.1.2 i) ∧ S.2.2.2.1.2 i ≤ 255) ∧ N 18 = bI S.2.1.1 ∧ (S.2.1.1 = true → relS S.2.1.2 (offA A 12) (ofN N 6))
def pXs (x : Int32 × SG) : xPost := fun v w => v = some (.int x.1) ∧ ∃ A N, relX x.2 A N ∧ w = eX A N
theorem relX_no {S : SG} {A : Nat → Nat → Int32} {N : Nat → Int32} (h : relX S A N) {k : Nat} : relX (refu S k) (aU A 27 (inc (A 27) k)) N := by
  obtain ⟨h1, h2, h3, h4, h5, h6⟩ := h
  refine ⟨h1, fun j hj1 hj6 => ?_, h3, h4, h5, h6⟩
  show inc (A 27) k j = inc S.2.2.2.2 k j
  unfold inc
  rw [upd_at, upd_at]
  by_cases e : j = k
  · subst e
    rw [if_pos rfl, if_pos rfl, h2 j hj1 hj6]
  · rw [if_neg e, if_neg e, h2 j hj1 hj6]
/-- the class's small methods -/
theorem x_refused (d : Nat) (A : Nat → Nat → Int32) (N : Nat → Int32) {why : Int32} {k : Nat} (h0 : 0 < k) (hk : k < 7) (hw : -why = nI k) : xCt xMs (d + 1) nX5_refused [.ref 0, .int why] (eX A N) (xRet why (eX (aU A 27 (inc (A 27) k)) N)) := by
  have hin : vp_in (-why) 7 := by rw [hw]; exact vp_in_nI hk (by decide)
  have cl : (-why).toNatClampNeg = k := by rw [hw]; exact nI_clamp (by omega)
  have e : why = -(nI k) := by rw [← hw, Int32.neg_neg]
  have ti : why.toInt = -(k : Int) := by rw [e]; exact sb_negT (by omega)
  refine xV (M := mX5_refused) rfl rfl rfl rfl rfl pX5_refused rfl (fun G g1 g2 g3 => ?_)
  refine xwp_go g1 [] 100 _ _ _ _ ?_
  refine And.intro (fun h => ?_) (fun _ => ?_)
  · rw [fa_le, ti, show (0 : Int32).toInt = 0 from by decide] at h
    omega
  refine And.intro (fun h => ?_) (fun _ => ?_)
  · rw [fa_lt, ti, show ((-6) : Int32).toInt = -6 from by decide] at h
    omega
  refine And.intro hin (And.intro hin ?_)
  refine xri (G := G) g2 rfl rfl ?_
  rw [cl]
  rfl
theorem x_first (d : Nat) (ws : xH) (x y : Int32) : xCt xMs (d + 1) nX5_first [.int x, .int y] ws (xRet (if x = 0 then y else x) ws) := by
  refine xS (M := mX5_first) rfl rfl pX5_first rfl (fun G g1 g2 g3 => ?_)
  refine xwp_go g1 [] 100 _ _ _ _ ?_
  refine And.intro (fun h => ?_) (fun h => ?_)
  · exact xri (G := G) g2 rfl (by rw [if_pos h]) rfl
  · exact xri (G := G) g2 rfl (by rw [if_neg h]) rfl
theorem x_wrongNumber (d : Nat) (ws : xH) (v l m : Int32) : xCt xMs (d + 1) nX5_wrongNumber [.int v, .int l, .int m] ws (xRet (bndI v l m) ws) := by
  refine xS (M := mX5_wrongNumber) rfl rfl pX5_wrongNumber rfl (fun G g1 g2 g3 => ?_)
  refine xwp_go g1 [] 100 _ _ _ _ ?_
  refine And.intro (fun h => ?_) (fun h => ?_)
  · refine And.intro (fun h' => ?_) (fun h' => ?_)
    · exact xri (G := G) g2 rfl (by unfold bndI; rw [if_neg (i_nlt_of_le h), if_neg (i_nlt_of_le h')]) rfl
    · exact xri (G := G) g2 rfl (by unfold bndI; rw [if_neg (i_nlt_of_le h), if_pos (i_lt_of_nle h')]) rfl
  · exact xri (G := G) g2 rfl (by unfold bndI; rw [if_pos (i_lt_of_nle h)]) rfl
def wwI (w m : Int32) : Int32 := if inB w 0 m = false then -2 else 0
theorem x_wrongWhat (d : Nat) (ws : xH) (w m : Int32) : xCt xMs (d + 1) nX5_wrongWhat [.int w, .int m] ws (xRet (wwI w m) ws) := by
  refine xS (M := mX5_wrongWhat) rfl rfl pX5_wrongWhat rfl (fun G g1 g2 g3 => ?_)
  unfold wwI at g2
  refine xwp_go g1 [] 100 _ _ _ _ ?_
  refine And.intro (fun h => ?_) (fun h => ?_)
  · exact xri (G := G) g2 rfl (by rw [if_pos (by unfold inB; exact decide_eq_false (fun z => i_nlt_of_le z.1 h))]) rfl
  · refine And.intro (fun h' => ?_) (fun h' => ?_)
    · exact xri (G := G) g2 rfl (by rw [if_neg (by unfold inB; rw [decide_eq_true ⟨i_le_of_nlt h, h'⟩]; decide)]) rfl
    · exact xri (G := G) g2 rfl (by rw [if_pos (by unfold inB; exact decide_eq_false (fun z => h' z.2))]) rfl
def waI (p w m : Int32) : Int32 := if wwI w m = 0 then bndI p 0 65535 else wwI w m
theorem x_wrongAsked (d : Nat) (ws : xH) (p w m : Int32) : xCt xMs (d + 2) nX5_wrongAsked [.int p, .int w, .int m] ws (xRet (waI p w m) ws) := by
  refine xS (M := mX5_wrongAsked) rfl rfl pX5_wrongAsked rfl (fun G g1 g2 g3 => ?_)
  refine xwp_go g1 [] 100 _ _ _ _ ?_
  refine xcallR (G := G) g3 [] (x_wrongWhat d [] w m) ?_
  refine xwp_go g1 [] 100 _ _ _ _ ?_
  refine xcallR (G := G) g3 [] (x_wrongNumber d [] p 0 65535) ?_
  refine xwp_go g1 [] 100 _ _ _ _ ?_
  refine xcallR (G := G) g3 [] (x_first d [] (wwI w m) (bndI p 0 65535)) ?_
  refine xwp_go g1 [] 100 _ _ _ _ ?_
  exact xri (G := G) g2 rfl rfl rfl
def wsI (b : Bool) : Int32 := if b = false then -1 else 0
theorem x_wrongSlide (d : Nat) {q : LQ} {A : Nat → Nat → Int32} {N : Nat → Int32} (hr : relS q A N) (x : Int32) : xCt xMs (d + 2) nX5_wrongSlide [.ref 0, .int x] (eX A N) (xRet (wsI (hasB (q 6 0) x)) (eX A N)) := by
  refine xV (M := mX5_wrongSlide) rfl rfl rfl rfl rfl pX5_wrongSlide rfl (fun G g1 g2 g3 => ?_)
  unfold wsI at g2
  refine xwp_go g1 [] 100 _ _ _ _ ?_
  refine xcN (G := G) g3 (c_has d hr x) ?_
  refine xwp_go g1 [] 100 _ _ _ _ ?_
  refine And.intro (fun h => ?_) (fun h => ?_) <;> rw [bI_0] at h
  · exact xri (G := G) g2 rfl (by rw [if_pos h]) rfl
  · exact xri (G := G) g2 rfl (by rw [if_neg h]) rfl
theorem x_wrongSet (d : Nat) {q : LQ} {A : Nat → Nat → Int32} {N : Nat → Int32} (hr : relS q A N) (x : Int32) : xCt xMs (d + 2) nX5_wrongSet [.ref 0, .int x] (eX A N) (xRet (wsI (setB (q 6 0) x)) (eX A N)) := by
  refine xV (M := mX5_wrongSet) rfl rfl rfl rfl rfl pX5_wrongSet rfl (fun G g1 g2 g3 => ?_)
  unfold wsI at g2
  refine xwp_go g1 [] 100 _ _ _ _ ?_
  refine xcN (G := G) g3 (c_hasAll d hr x) ?_
  refine xwp_go g1 [] 100 _ _ _ _ ?_
  refine And.intro (fun h => ?_) (fun h => ?_) <;> rw [bI_0] at h
  · exact xri (G := G) g2 rfl (by rw [if_pos h]) rfl
  · exact xri (G := G) g2 rfl (by rw [if_neg h]) rfl
end
section
/-! the class's calls that ask the lantern now -/
theorem relX_q {S : SG} {A a' : Nat → Nat → Int32} {N s' : Nat → Int32} (h : relX S A N) {q : LQ} (hq : relS q a' s') : relX (setQ S q) (ptA A 0 6 a') (ptN N 0 3 s') := by
  obtain ⟨h1, h2, h3, h4, h5, h6⟩ := h
  exact ⟨hq, h2, h3, h4, h5, h6⟩
theorem wsI_0 {b : Bool} : wsI b = 0 ↔ b = true := by cases b <;> decide
theorem wwI_0 {w m : Int32} : wwI w m = 0 ↔ inB w 0 m = true := by
  unfold wwI
  cases inB w 0 m <;> decide
theorem x_slide (d : Nat) {S : SG} {A : Nat → Nat → Int32} {N : Nat → Int32} (hr : relX S A N) (x w : Int32) : xCt xMs (d + 4) nX5_slide [.ref 0, .int x, .int w] (eX A N) (pXs (spSlide S x w)) := by
  have h8 := hr.1.1.1
  refine xV (M := mX5_slide) rfl rfl rfl rfl rfl pX5_slide rfl (fun G g1 g2 g3 => ?_)
  unfold spSlide at g2
  refine xwp_go g1 [] 100 _ _ _ _ ?_
  refine xcX (G := G) g3 (x_wrongSlide (d + 1) hr.1 x) ?_
  refine xwp_go g1 [] 100 _ _ _ _ ?_
  refine xcallR (G := G) g3 [] (x_wrongWhat (d + 2) [] w 5) ?_
  refine xwp_go g1 [] 100 _ _ _ _ ?_
  refine xcallR (G := G) g3 [] (x_first (d + 2) [] _ _) ?_
  by_cases h1 : hasB (S.1 6 0) x = false
  · rw [if_pos h1] at g2
    rw [h1, show (if wsI false = 0 then wwI w 5 else wsI false) = -1 from rfl]
    refine xwp_go g1 [] 100 _ _ _ _ ?_
    refine And.intro (fun h => absurd h (by decide)) (fun _ => ?_)
    refine xcXW (G := G) g3 (x_refused (d + 2) A N (why := -1) (k := 1) (by decide) (by decide) (by decide)) ?_
    refine xwp_go g1 [] 100 _ _ _ _ ?_
    exact xri' (G := G) g2 rfl ⟨rfl, _, N, relX_no (k := 1) hr, rfl⟩
  rw [if_neg h1] at g2
  have h1' : hasB (S.1 6 0) x = true := Bool.not_eq_false _ ▸ h1
  rw [h1', show (if wsI true = 0 then wwI w 5 else wsI true) = wwI w 5 from rfl]
  obtain ⟨i, hi, rfl⟩ := hasB_of (by omega) h1'
  by_cases h2 : inB w 0 5 = false
  · rw [if_pos h2] at g2
    rw [show wwI w 5 = -2 from by unfold wwI; rw [if_pos h2]]
    refine xwp_go g1 [] 100 _ _ _ _ ?_
    refine And.intro (fun h => absurd h (by decide)) (fun _ => ?_)
    refine xcXW (G := G) g3 (x_refused (d + 2) A N (why := -2) (k := 2) (by decide) (by decide) (by decide)) ?_
    refine xwp_go g1 [] 100 _ _ _ _ ?_
    exact xri' (G := G) g2 rfl ⟨rfl, _, N, relX_no (k := 2) hr, rfl⟩
  rw [if_neg h2] at g2
  have h2' : inB w 0 5 = true := Bool.not_eq_false _ ▸ h2
  rw [show wwI w 5 = 0 from wwI_0.mpr h2']
  obtain ⟨k, -, hk, rfl⟩ := inB_of (l := 0) (m := 5) (by decide) (by decide) h2'
  rw [nI_clamp (by omega), nI_clamp (by omega)] at g2
  refine xwp_go g1 [] 100 _ _ _ _ ?_
  refine And.intro (fun _ => ?_) (fun h => absurd rfl h)
  refine xcN (G := G) g3 (c_told d hr.1 hi hk) ?_
  refine xwp_go g1 [] 100 _ _ _ _ ?_
  exact xri' (G := G) g2 rfl ⟨rfl, A, N, hr, rfl⟩
theorem x_wanted (d : Nat) {S : SG} {A : Nat → Nat → Int32} {N : Nat → Int32} (hr : relX S A N) (x : Int32) : xCt xMs (d + 3) nX5_wanted [.ref 0, .int x] (eX A N) (pXs (spWanted S x)) := by
  have h6 := hr.1.1.2.1
  refine xV (M := mX5_wanted) rfl rfl rfl rfl rfl pX5_wanted rfl (fun G g1 g2 g3 => ?_)
  unfold spWanted at g2
  refine xwp_go g1 [] 100 _ _ _ _ ?_
  refine xcN (G := G) g3 (c_hasWanted (d + 1) hr.1 x) ?_
  refine xwp_go g1 [] 100 _ _ _ _ ?_
  refine And.intro (fun h => ?_) (fun h => ?_) <;> rw [bI_0] at h
  · rw [if_pos h] at g2
    refine xcXW (G := G) g3 (x_refused (d + 1) A N (why := -1) (k := 1) (by decide) (by decide) (by decide)) ?_
    refine xwp_go g1 [] 100 _ _ _ _ ?_
    exact xri' (G := G) g2 rfl ⟨rfl, _, N, relX_no (k := 1) hr, rfl⟩
  · rw [if_neg h] at g2
    obtain ⟨i, hi, rfl⟩ := hasB_of (by omega) (Bool.not_eq_false _ ▸ h)
    rw [nI_clamp (by omega)] at g2
    refine xcN (G := G) g3 (c_wantedPicture d hr.1 hi) ?_
    refine xwp_go g1 [] 100 _ _ _ _ ?_
    exact xri' (G := G) g2 rfl ⟨rfl, A, N, hr, rfl⟩
def spHeat (S : SG) (x : Int32) : Int32 × SG := if ¬ bndI x 1 9 = 0 then rfs S (bndI x 1 9) else (nI (S.1 6 2), setQ S (heatQ S.1 x.toNatClampNeg))
def spPrice (S : SG) (x v : Int32) : Int32 × SG := if hasB (S.1 6 0) x = false then rfs S (-1) else if ¬ bndI v 0 99 = 0 then rfs S (bndI v 0 99) else (nI (S.1 3 x.toNatClampNeg), setQ S (priceQ S.1 x.toNatClampNeg v.toNatClampNeg))
def spFeed (S : SG) (x : Int32) : Int32 × SG := if ¬ bndI x 0 255 = 0 then rfs S (bndI x 0 255) else if S.2.2.1.1 = 80 then rfs S (-6) else (nI (S.2.2.1.1 + 1), S.1, S.2.1, (S.2.2.1.1 + 1, fun i => if i = S.2.2.1.1 then x.toNatClampNeg else S.2.2.1.2 i), S.2.2.2.1, S.2.2.2.2)
def spRow (S : SG) (x : Int32) : Int32 × SG := if ¬ bndI x 0 255 = 0 then rfs S (bndI x 0 255) else if S.2.2.2.1.1 = 12 then rfs S (-6) else (nI (S.2.2.2.1.1 + 1), S.1, S.2.1, S.2.2.1, (S.2.2.2.1.1 + 1, fun i => if i = S.2.2.2.1.1 then x.toNatClampNeg else S.2.2.2.1.2 i), S.2.2.2.2)
theorem bnd_k0 {v l m : Int32} (h : ¬ bndI v l m = 0) : 0 < refK (bndI v l m) := by
  rcases bnd_c v l m with q | q | q
  · exact absurd q h
  · rw [q]; decide
  · rw [q]; decide
theorem x_heat (d : Nat) {S : SG} {A : Nat → Nat → Int32} {N : Nat → Int32} (hr : relX S A N) (x : Int32) : xCt xMs (d + 2) nX5_heat [.ref 0, .int x] (eX A N) (pXs (spHeat S x)) := by
  refine xV (M := mX5_heat) rfl rfl rfl rfl rfl pX5_heat rfl (fun G g1 g2 g3 => ?_)
  unfold spHeat at g2
  refine xwp_go g1 [] 100 _ _ _ _ ?_
  refine xcallR (G := G) g3 [] (x_wrongNumber d [] x 1 9) ?_
  refine xwp_go g1 [] 100 _ _ _ _ ?_
  refine And.intro (fun h => ?_) (fun h => ?_)
  · rw [if_neg (fun z => z h)] at g2
    obtain ⟨m, hm1, hm, rfl⟩ := bnd_0 (l := 1) (m := 9) (by decide) (by decide) h
    rw [nI_clamp (by omega)] at g2
    refine xri' (G := G) g2 rfl ⟨by rw [hr.1.2.2.2.2.2], A, sU N 2 (nI m), ?_, rfl⟩
    obtain ⟨h1, h2, h3, h4, h5, h6⟩ := hr
    exact ⟨rel_heat h1 hm1 hm rfl rfl rfl, h2, h3, h4, h5, h6⟩
  · rw [if_pos h] at g2
    refine xcXW (G := G) g3 (x_refused d A N (bnd_k0 h) (bnd_k h).1 (bnd_k h).2) ?_
    refine xwp_go g1 [] 100 _ _ _ _ ?_
    exact xri' (G := G) g2 rfl ⟨rfl, _, N, relX_no hr, rfl⟩
theorem x_price (d : Nat) {S : SG} {A : Nat → Nat → Int32} {N : Nat → Int32} (hr : relX S A N) (x v : Int32) : xCt xMs (d + 3) nX5_price [.ref 0, .int x, .int v] (eX A N) (pXs (spPrice S x v)) := by
  have h8 := hr.1.1.1
  refine xV (M := mX5_price) rfl rfl rfl rfl rfl pX5_price rfl (fun G g1 g2 g3 => ?_)
  unfold spPrice at g2
  refine xwp_go g1 [] 100 _ _ _ _ ?_
  refine xcX (G := G) g3 (x_wrongSlide d hr.1 x) ?_
  refine xwp_go g1 [] 100 _ _ _ _ ?_
  refine xcallR (G := G) g3 [] (x_wrongNumber (d + 1) [] v 0 99) ?_
  refine xwp_go g1 [] 100 _ _ _ _ ?_
  refine xcallR (G := G) g3 [] (x_first (d + 1) [] _ _) ?_
  by_cases h1 : hasB (S.1 6 0) x = false
  · rw [if_pos h1] at g2
    rw [h1, show (if wsI false = 0 then bndI v 0 99 else wsI false) = -1 from rfl]
    refine xwp_go g1 [] 100 _ _ _ _ ?_
    refine And.intro (fun h => absurd h (by decide)) (fun _ => ?_)
    refine xcXW (G := G) g3 (x_refused (d + 1) A N (why := -1) (k := 1) (by decide) (by decide) (by decide)) ?_
    refine xwp_go g1 [] 100 _ _ _ _ ?_
    exact xri' (G := G) g2 rfl ⟨rfl, _, N, relX_no (k := 1) hr, rfl⟩
  rw [if_neg h1] at g2
  have h1' : hasB (S.1 6 0) x = true := Bool.not_eq_false _ ▸ h1
  rw [h1', show (if wsI true = 0 then bndI v 0 99 else wsI true) = bndI v 0 99 from rfl]
  obtain ⟨i, hi, rfl⟩ := hasB_of (by omega) h1'
  refine xwp_go g1 [] 100 _ _ _ _ ?_
  refine And.intro (fun h => ?_) (fun h => ?_)
  · rw [if_neg (fun z => z h)] at g2
    obtain ⟨m, -, hm, rfl⟩ := bnd_0 (l := 0) (m := 99) (by decide) (by decide) h
    rw [nI_clamp (by omega), nI_clamp (by omega)] at g2
    refine xcNP (G := G) g3 (c_repriced d hr.1 hi hm) (fun v w hp => ⟨_, _, hp.2.choose_spec.2⟩) (fun v a' s' hp => ?_)
    obtain ⟨rfl, a2, h2, h3⟩ := hp
    refine xwp_go g1 [] 100 _ _ _ _ ?_
    have e : eX (ptA A 0 6 a') (ptN N 0 3 s') = eX (ptA A 0 6 a2) (ptN N 0 3 N) := by rw [← xputNow A a' N s', ← xputNow A a2 N N, h3]
    exact xri' (G := G) g2 rfl ⟨rfl, ptA A 0 6 a2, ptN N 0 3 N, relX_q hr h2, e⟩
  · rw [if_pos h] at g2
    refine xcXW (G := G) g3 (x_refused (d + 1) A N (bnd_k0 h) (bnd_k h).1 (bnd_k h).2) ?_
    refine xwp_go g1 [] 100 _ _ _ _ ?_
    exact xri' (G := G) g2 rfl ⟨rfl, _, N, relX_no hr, rfl⟩
theorem x_lay (d : Nat) {S : SG} {A : Nat → Nat → Int32} {N : Nat → Int32} (hr : relX S A N) (x y : Int32) : xCt xMs (d + 4) nX5_lay [.ref 0, .int x, .int y] (eX A N) (pXs (spLay S x y)) := by
  have hl := lt256 hr.1.1
  refine xV (M := mX5_lay) rfl rfl rfl rfl rfl pX5_lay rfl (fun G g1 g2 g3 => ?_)
  unfold spLay at g2
  refine xwp_go g1 [] 100 _ _ _ _ ?_
  refine xcX (G := G) g3 (x_wrongSet (d + 1) hr.1 x) ?_
  refine xwp_go g1 [] 100 _ _ _ _ ?_
  refine xcX (G := G) g3 (x_wrongSet (d + 1) hr.1 y) ?_
  refine xwp_go g1 [] 100 _ _ _ _ ?_
  refine xcallR (G := G) g3 [] (x_first (d + 2) [] _ _) ?_
  by_cases h1 : setB (S.1 6 0) x = false ∨ setB (S.1 6 0) y = false
  · rw [if_pos h1] at g2
    rw [show (if wsI (setB (S.1 6 0) x) = 0 then wsI (setB (S.1 6 0) y) else wsI (setB (S.1 6 0) x)) = -1 from by
      rcases h1 with h | h
      · rw [h]; rfl
      · rw [h]; cases setB (S.1 6 0) x <;> rfl]
    refine xwp_go g1 [] 100 _ _ _ _ ?_
    refine And.intro (fun h => absurd h (by decide)) (fun _ => ?_)
    refine xcXW (G := G) g3 (x_refused (d + 2) A N (why := -1) (k := 1) (by decide) (by decide) (by decide)) ?_
    refine xwp_go g1 [] 100 _ _ _ _ ?_
    exact xri' (G := G) g2 rfl ⟨rfl, _, N, relX_no (k := 1) hr, rfl⟩
  · rw [if_neg h1] at g2
    have hx : setB (S.1 6 0) x = true := Bool.not_eq_false _ ▸ (fun z => h1 (Or.inl z))
    have hy : setB (S.1 6 0) y = true := Bool.not_eq_false _ ▸ (fun z => h1 (Or.inr z))
    rw [hx, hy, show (if wsI true = 0 then wsI true else wsI true) = 0 from rfl]
    obtain ⟨m, hm, rfl⟩ := setB_of hx
    obtain ⟨o, ho, rfl⟩ := setB_of hy
    rw [nI_clamp (by omega), nI_clamp (by omega)] at g2
    refine xwp_go g1 [] 100 _ _ _ _ ?_
    refine And.intro (fun _ => ?_) (fun h => absurd rfl h)
    refine xcN (G := G) g3 (c_laid d hr.1 (set := m) (over := o) (by omega) (by omega)) ?_
    refine xwp_go g1 [] 100 _ _ _ _ ?_
    exact xri' (G := G) g2 rfl ⟨rfl, A, N, hr, rfl⟩
theorem x_project (d : Nat) {S : SG} {A : Nat → Nat → Int32} {N : Nat → Int32} (hr : relX S A N) (x : Int32) : xCt xMs (d + 5) nX5_project [.ref 0, .int x] (eX A N) (pXs (spProject S x)) := by
  have hl := lt256 hr.1.1
  refine xV (M := mX5_project) rfl rfl rfl rfl rfl pX5_project rfl (fun G g1 g2 g3 => ?_)
  unfold spProject at g2
  refine xwp_go g1 [] 100 _ _ _ _ ?_
  refine xcX (G := G) g3 (x_wrongSet (d + 2) hr.1 x) ?_
  refine xwp_go g1 [] 100 _ _ _ _ ?_
  refine And.intro (fun h => ?_) (fun h => ?_) <;> rw [wsI_0] at h
  · have h' : setB (S.1 6 0) x = false := by simpa using h
    rw [if_pos h'] at g2
    rw [h'] 
    refine And.intro (fun h => absurd h (by decide)) (fun _ => ?_)
    refine xcXW (G := G) g3 (x_refused (d + 3) A N (why := -1) (k := 1) (by decide) (by decide) (by decide)) ?_
    refine xwp_go g1 [] 100 _ _ _ _ ?_
    exact xri' (G := G) g2 rfl ⟨rfl, _, N, relX_no (k := 1) hr, rfl⟩
  · rw [if_neg (by rw [h]; decide)] at g2
    obtain ⟨m, hm, rfl⟩ := setB_of h
    rw [nI_clamp (by omega)] at g2
    rw [h]
    refine xcN (G := G) g3 (c_isProjectable (d + 2) hr.1 (nI m)) ?_
    refine xwp_go g1 [] 100 _ _ _ _ ?_
    refine And.intro (fun h2 => ?_) (fun h2 => ?_) <;> rw [bI_0] at h2
    · rw [if_neg h2] at g2
      refine And.intro (fun _ => ?_) (fun h => absurd rfl h)
      refine xcNP (G := G) g3 (c_projected d hr.1 (set := m) (by omega)) (fun v w hp => ⟨_, _, hp.2.choose_spec.2⟩) (fun v a' s' hp => ?_)
      obtain ⟨rfl, a2, h2, h3⟩ := hp
      refine xwp_go g1 [] 100 _ _ _ _ ?_
      have e : eX (ptA A 0 6 a') (ptN N 0 3 s') = eX (ptA A 0 6 a2) (ptN N 0 3 N) := by rw [← xputNow A a' N s', ← xputNow A a2 N N, h3]
      exact xri' (G := G) g2 rfl ⟨rfl, ptA A 0 6 a2, ptN N 0 3 N, relX_q hr h2, e⟩
    · rw [if_pos h2] at g2
      refine And.intro (fun h => absurd h (by decide)) (fun _ => ?_)
      refine xcXW (G := G) g3 (x_refused (d + 3) A N (why := -3) (k := 3) (by decide) (by decide) (by decide)) ?_
      refine xwp_go g1 [] 100 _ _ _ _ ?_
      exact xri' (G := G) g2 rfl ⟨rfl, _, N, relX_no (k := 3) hr, rfl⟩
end
section
/-! the class's calls: feed, gaps, nearest, sure, row, count, image, restore -/
def eT (f : Nat → Int32) (t : Int32) : xH := [.inr (1, [.ref 1, .int t]), .inl (80, f)]
abbrev pT : List Nat := [22, 23]
theorem xsubT (A : Nat → Nat → Int32) (N : Nat → Int32) : xsub pT (eT (A 18) (N 9)) (eX A N) := rfl
theorem xputT (A : Nat → Nat → Int32) (N : Nat → Int32) (f : Nat → Int32) (t : Int32) : xput pT pT (eT f t) (eX A N) = eX (aU A 18 f) (sU N 9 t) := rfl
theorem t_isFull (d : Nat) (f : Nat → Int32) {n : Nat} (hn : n ≤ 80) {t : Int32} (ht : t = nI n) : xCt xMs (d + 1) nX2_isFull [.ref 0] (eT f t) (xRet (bI (decide (n = 80))) (eT f t)) := by
  refine xV (M := mX2_isFull) rfl rfl rfl rfl rfl pX2_isFull rfl (fun G g1 g2 g3 => ?_)
  refine xwp_go g1 [] 100 _ _ _ _ ?_
  refine And.intro (fun h => ?_) (fun h => ?_) <;> rw [ht, show (80 : Int32) = nI 80 from rfl, nI_ltI (by omega) (by decide)] at h
  · exact xrz (G := G) g2 rfl (Or.inl rfl) (by rw [decide_eq_false (by omega)]; rfl) rfl
  · exact xrz (G := G) g2 rfl (Or.inr rfl) (by rw [decide_eq_true (by omega)]; rfl) rfl
theorem t_taken (d : Nat) (f : Nat → Int32) {n : Nat} (hn : n < 80) {t : Int32} (ht : t = nI n) (x : Int32) : xCt xMs (d + 2) nX2_taken [.ref 0, .int x] (eT f t) (xRet (nI (n + 1)) (eT (upd f n x) (nI (n + 1)))) := by
  refine xV (M := mX2_taken) rfl rfl rfl rfl rfl pX2_taken rfl (fun G g1 g2 g3 => ?_)
  refine xwp_go g1 [] 100 _ _ _ _ ?_
  refine xcallR (G := G) g3 [0, 1] (t_isFull d f (by omega) ht) ?_
  rw [decide_eq_false (by omega)]
  refine xwp_go g1 [] 100 _ _ _ _ ?_
  refine And.intro (fun h => absurd rfl h) (fun _ => ?_)
  refine And.intro (by rw [ht]; exact vp_in_nI hn (by decide)) ?_
  refine xri (G := G) g2 rfl (by rw [ht, nI_1]) ?_
  rw [ht, nI_clamp (by omega), nI_1]
  rfl
theorem x_feed (d : Nat) {S : SG} {A : Nat → Nat → Int32} {N : Nat → Int32} (hr : relX S A N) (x : Int32) : xCt xMs (d + 3) nX5_feed [.ref 0, .int x] (eX A N) (pXs (spFeed S x)) := by
  have hr' := hr
  obtain ⟨h1, h2, ⟨h3, h30, h31⟩, h4, h5, h6⟩ := hr
  refine xV (M := mX5_feed) rfl rfl rfl rfl rfl pX5_feed rfl (fun G g1 g2 g3 => ?_)
  unfold spFeed at g2
  refine xwp_go g1 [] 100 _ _ _ _ ?_
  refine xcallR (G := G) g3 [] (x_wrongNumber (d + 1) [] x 0 255) ?_
  refine xwp_go g1 [] 100 _ _ _ _ ?_
  refine And.intro (fun h => ?_) (fun h => ?_)
  · rw [if_pos h] at g2
    refine And.intro (fun h' => absurd h' h) (fun _ => ?_)
    refine xcXW (G := G) g3 (x_refused (d + 1) A N (bnd_k0 h) (bnd_k h).1 (bnd_k h).2) ?_
    refine xwp_go g1 [] 100 _ _ _ _ ?_
    exact xri' (G := G) g2 rfl ⟨rfl, _, N, relX_no hr', rfl⟩
  · rw [if_neg (fun z => z h)] at g2
    obtain ⟨m, -, hm, rfl⟩ := bnd_0 (l := 0) (m := 255) (by decide) (by decide) h
    rw [nI_clamp (by omega)] at g2
    refine xcallR (G := G) g3 pT (t_isFull (d + 1) (A 18) h30 h3) ?_
    by_cases hf : S.2.2.1.1 = 80
    · rw [if_pos hf] at g2
      rw [decide_eq_true hf]
      refine xwp_go g1 [] 100 _ _ _ _ ?_
      refine And.intro (fun h => absurd h (by decide)) (fun _ => ?_)
      refine And.intro (fun h => absurd h (by decide)) (fun _ => ?_)
      refine xcXW (G := G) g3 (x_refused (d + 1) A N (why := -6) (k := 6) (by decide) (by decide) (by decide)) ?_
      refine xwp_go g1 [] 100 _ _ _ _ ?_
      exact xri' (G := G) g2 rfl ⟨rfl, _, N, relX_no (k := 6) hr', rfl⟩
    · rw [if_neg hf] at g2
      rw [decide_eq_false hf]
      refine xwp_go g1 [] 100 _ _ _ _ ?_
      refine And.intro (fun _ => ?_) (fun h => absurd rfl h)
      refine And.intro (fun _ => ?_) (fun h' => absurd h h')
      refine xcallW (G := G) g3 pT (t_taken d (A 18) (show S.2.2.1.1 < 80 by omega) h3 (nI m)) ?_
      rw [xputT]
      refine xwp_go g1 [] 100 _ _ _ _ ?_
      refine xri' (G := G) g2 rfl ⟨rfl, aU A 18 (upd (A 18) S.2.2.1.1 (nI m)), sU N 9 (nI (S.2.2.1.1 + 1)), ⟨h1, h2, ⟨rfl, by show S.2.2.1.1 + 1 ≤ 80; omega, fun i hi => ?_⟩, h4, h5, h6⟩, rfl⟩
      show upd (A 18) S.2.2.1.1 (nI m) i = nI (if i = S.2.2.1.1 then m else S.2.2.1.2 i) ∧ (if i = S.2.2.1.1 then m else S.2.2.1.2 i) ≤ 255
      have hi : i < S.2.2.1.1 + 1 := hi
      rw [upd_at]
      by_cases e : i = S.2.2.1.1
      · rw [if_pos e, if_pos e]; exact ⟨rfl, hm⟩
      · rw [if_neg e, if_neg e]; exact h31 i (by omega)
theorem x_row (d : Nat) {S : SG} {A : Nat → Nat → Int32} {N : Nat → Int32} (hr : relX S A N) (x : Int32) : xCt xMs (d + 2) nX5_row [.ref 0, .int x] (eX A N) (pXs (spRow S x)) := by
  have hr' := hr
  obtain ⟨h1, h2, h3, ⟨h4, h40, h41⟩, h5, h6⟩ := hr
  refine xV (M := mX5_row) rfl rfl rfl rfl rfl pX5_row rfl (fun G g1 g2 g3 => ?_)
  unfold spRow at g2
  refine xwp_go g1 [] 100 _ _ _ _ ?_
  refine xcallR (G := G) g3 [] (x_wrongNumber d [] x 0 255) ?_
  refine xwp_go g1 [] 100 _ _ _ _ ?_
  refine And.intro (fun h => ?_) (fun h => ?_)
  · rw [if_pos h] at g2
    refine And.intro (fun h' => absurd h' h) (fun _ => ?_)
    refine xcXW (G := G) g3 (x_refused d A N (bnd_k0 h) (bnd_k h).1 (bnd_k h).2) ?_
    refine xwp_go g1 [] 100 _ _ _ _ ?_
    exact xri' (G := G) g2 rfl ⟨rfl, _, N, relX_no hr', rfl⟩
  · rw [if_neg (fun z => z h)] at g2
    obtain ⟨m, -, hm, rfl⟩ := bnd_0 (l := 0) (m := 255) (by decide) (by decide) h
    rw [nI_clamp (by omega)] at g2
    refine And.intro (fun h' => ?_) (fun h' => ?_) <;> rw [h4, show (12 : Int32) = nI 12 from rfl, nI_ltI (by omega) (by decide)] at h'
    · rw [if_neg (by omega)] at g2
      refine And.intro (fun _ => ?_) (fun h' => absurd h h')
      have hin : vp_in (N 17) 12 := by rw [h4]; exact vp_in_nI h' (by decide)
      have cl : (N 17).toNatClampNeg = S.2.2.2.1.1 := by rw [h4]; exact nI_clamp (by omega)
      refine And.intro hin ?_
      refine xri' (G := G) g2 rfl ⟨by rw [h4, nI_1], aU A 26 (upd (A 26) (N 17).toNatClampNeg (nI m)), sU N 17 (N 17 + 1), ⟨h1, h2, h3, ⟨by show N 17 + 1 = _; rw [h4, nI_1], by show S.2.2.2.1.1 + 1 ≤ 12; omega, fun i hi => ?_⟩, h5, h6⟩, rfl⟩
      show upd (A 26) (N 17).toNatClampNeg (nI m) i = nI (if i = S.2.2.2.1.1 then m else S.2.2.2.1.2 i) ∧ (if i = S.2.2.2.1.1 then m else S.2.2.2.1.2 i) ≤ 255
      have hi : i < S.2.2.2.1.1 + 1 := hi
      rw [cl, upd_at]
      by_cases e : i = S.2.2.2.1.1
      · rw [if_pos e, if_pos e]; exact ⟨rfl, hm⟩
      · rw [if_neg e, if_neg e]; exact h41 i (by omega)
    · rw [if_pos (by omega)] at g2
      refine And.intro (fun h => absurd h (by decide)) (fun _ => ?_)
      refine xcXW (G := G) g3 (x_refused d A N (why := -6) (k := 6) (by decide) (by decide) (by decide)) ?_
      refine xwp_go g1 [] 100 _ _ _ _ ?_
      exact xri' (G := G) g2 rfl ⟨rfl, _, N, relX_no (k := 6) hr', rfl⟩
theorem notN_tb (p i : Nat) (hi : i < 16) : (notN p).testBit i = !p.testBit i := by
  unfold notN
  rw [Nat.testBit_xor, Nat.testBit_and, show (65535 : Nat) = 2 ^ 16 - 1 from rfl, Nat.testBit_two_pow_sub_one, decide_eq_true hi]
  cases p.testBit i <;> rfl
theorem bit_n (p i : Nat) : p / 2 ^ i % 2 = cond (p.testBit i) 1 0 := by
  rw [Nat.testBit_eq_decide_div_mod_eq]
  by_cases h : p / 2 ^ i % 2 = 1
  · rw [decide_eq_true h, h]; rfl
  · rw [decide_eq_false h]
    show _ = 0
    omega
theorem popL_not (p : Nat) : ∀ k, k ≤ 16 → popL (notN p) k + popL p k = k
  | 0, _ => rfl
  | k + 1, h => by
    have ih := popL_not p k (by omega)
    show popL (notN p) k + notN p / 2 ^ k % 2 + (popL p k + p / 2 ^ k % 2) = k + 1
    rw [bit_n, bit_n, notN_tb p k (by omega)]
    cases p.testBit k
    · show popL (notN p) k + 1 + (popL p k + 0) = k + 1; omega
    · show popL (notN p) k + 0 + (popL p k + 1) = k + 1; omega
theorem pop_not (p : Nat) : pop (notN p) = 16 - pop p := by
  have := popL_not p 16 (by decide)
  unfold pop
  omega
theorem wa_k {p w m : Int32} (h : ¬ waI p w m = 0) : 0 < refK (waI p w m) ∧ refK (waI p w m) < 7 ∧ -(waI p w m) = nI (refK (waI p w m)) := by
  unfold waI at h ⊢
  split
  · next e => rw [if_pos e] at h; exact ⟨bnd_k0 h, bnd_k h⟩
  · next e =>
    unfold wwI at e ⊢
    split
    · decide
    · next e2 => rw [if_neg e2] at e; exact absurd rfl e
theorem wa_0 {p w : Int32} {m : Nat} (hm : m < 2 ^ 31) (h : waI p w (nI m) = 0) : inB w 0 (nI m) = true ∧ bndI p 0 65535 = 0 ∧ (∃ k, k ≤ m ∧ w = nI k) ∧ ∃ k, k < 65536 ∧ p = nI k := by
  unfold waI at h
  split at h
  · next e =>
    have e := wwI_0.mp e
    obtain ⟨k, -, hk, e3⟩ := bnd_0 (l := 0) (m := 65535) (by decide) (by decide) h
    obtain ⟨k2, -, hk2, e2⟩ := inB_of (l := 0) (m := m) (by decide) hm e
    exact ⟨e, h, ⟨k2, hk2, e2⟩, ⟨k, by omega, e3⟩⟩
  · next e => exact absurd h e
/-- a spec that refuses as waI does -/
theorem wa_spec {S : SG} {p w m : Int32} {X : Int32 × SG} (h : ¬ waI p w m = 0) : (if inB w 0 m = false then rfs S (-2) else if ¬ bndI p 0 65535 = 0 then rfs S (bndI p 0 65535) else X) = rfs S (waI p w m) := by
  unfold waI at h ⊢
  by_cases e : inB w 0 m = false
  · rw [if_pos e, show wwI w m = -2 from by unfold wwI; rw [if_pos e]]; rfl
  · have e' : wwI w m = 0 := by unfold wwI; rw [if_neg e]
    rw [if_pos e'] at h ⊢
    rw [if_neg e, if_pos h]
theorem wa_spec0 {S : SG} {p w m : Int32} {X : Int32 × SG} (h1 : inB w 0 m = true) (h2 : bndI p 0 65535 = 0) : (if inB w 0 m = false then rfs S (-2) else if ¬ bndI p 0 65535 = 0 then rfs S (bndI p 0 65535) else X) = X := by
  rw [if_neg (by rw [h1]; decide), if_neg (fun z => z h2)]
theorem x_gaps (d : Nat) {S : SG} {A : Nat → Nat → Int32} {N : Nat → Int32} (hr : relX S A N) (p w : Int32) : xCt xMs (d + 3) nX5_gaps [.ref 0, .int p, .int w] (eX A N) (pXs (spGaps S p w)) := by
  refine xV (M := mX5_gaps) rfl rfl rfl rfl rfl pX5_gaps rfl (fun G g1 g2 g3 => ?_)
  unfold spGaps at g2
  refine xwp_go g1 [] 100 _ _ _ _ ?_
  refine xcallR (G := G) g3 [] (x_wrongAsked d [] p w 1) ?_
  refine xwp_go g1 [] 100 _ _ _ _ ?_
  refine And.intro (fun h => ?_) (fun h => ?_)
  · obtain ⟨b1, b2, ⟨k, hk, rfl⟩, ⟨m, hm, rfl⟩⟩ := wa_0 (m := 1) (by decide) h
    rw [wa_spec0 (m := 1) b1 b2, nI_clamp (by omega)] at g2
    have e : (65535 : Int32) &&& (nI m ^^^ (-1)) = nI (notN m) := by rw [show (65535 : Int32) = nI 65535 from rfl, nI_andn]; rfl
    refine And.intro (fun h2 => ?_) (fun h2 => ?_)
    · rw [if_neg h2] at g2
      refine xcallR (G := G) g3 [] (ag1 e (c_groups d [] (notN_lt m))) ?_
      refine xwp_go g1 [] 100 _ _ _ _ ?_
      exact xri' (G := G) g2 rfl ⟨rfl, A, N, hr, rfl⟩
    · rw [if_pos h2] at g2
      refine xcallR (G := G) g3 [] (ag1 e (c_bitCount (d + 1) [] (notN_lt m))) ?_
      refine xwp_go g1 [] 100 _ _ _ _ ?_
      exact xri' (G := G) g2 rfl ⟨by rw [pop_not], A, N, hr, rfl⟩
  · rw [wa_spec h] at g2
    refine xcXW (G := G) g3 (x_refused (d + 1) A N (wa_k h).1 (wa_k h).2.1 (wa_k h).2.2) ?_
    refine xwp_go g1 [] 100 _ _ _ _ ?_
    exact xri' (G := G) g2 rfl ⟨rfl, _, N, relX_no hr, rfl⟩
theorem near_at (q : LQ) (p : Nat) : ∀ i, (nearL q p i).1 ≤ i ∧ ((nearL q p i).1 ≠ 0 → (nearL q p i).2 = pop (q 5 ((nearL q p i).1 - 1) ^^^ p))
  | 0 => ⟨Nat.le_refl _, fun h => absurd rfl h⟩
  | i + 1 => by
    have ih := near_at q p i
    have es : nearL q p (i + 1) = if pop (q 5 i ^^^ p) < (nearL q p i).2 then (i + 1, pop (q 5 i ^^^ p)) else nearL q p i := rfl
    rw [es]
    split
    · exact ⟨Nat.le_refl _, fun _ => rfl⟩
    · exact ⟨by omega, ih.2⟩
theorem x_nearest (d : Nat) {S : SG} {A : Nat → Nat → Int32} {N : Nat → Int32} (hr : relX S A N) (p w : Int32) : xCt xMs (d + 3) nX5_nearest [.ref 0, .int p, .int w] (eX A N) (pXs (spNearest S p w)) := by
  have h6 := hr.1.1.2.1
  refine xV (M := mX5_nearest) rfl rfl rfl rfl rfl pX5_nearest rfl (fun G g1 g2 g3 => ?_)
  unfold spNearest at g2
  refine xwp_go g1 [] 100 _ _ _ _ ?_
  refine xcallR (G := G) g3 [] (x_wrongAsked d [] p w 1) ?_
  refine xwp_go g1 [] 100 _ _ _ _ ?_
  refine And.intro (fun h => ?_) (fun h => ?_)
  · obtain ⟨b1, b2, ⟨k, hk, rfl⟩, ⟨m, hm, rfl⟩⟩ := wa_0 (m := 1) (by decide) h
    rw [wa_spec0 (m := 1) b1 b2, nI_clamp (by omega)] at g2
    refine xcN (G := G) g3 (c_nearestWanted d hr.1 hm) ?_
    obtain ⟨l1, l2⟩ := near_at S.1 m (S.1 6 1)
    generalize nearL S.1 m (S.1 6 1) = nl at *
    refine xwp_go g1 [] 100 _ _ _ _ ?_
    by_cases h0 : nl.1 = 0
    · rw [if_pos h0] at g2
      have hw : whI nl.1 = -1 := by unfold whI; rw [if_pos h0]
      refine And.intro (fun h3 => by rw [hw] at h3; exact absurd h3 (by decide)) (fun _ => ?_)
      exact xri' (G := G) g2 rfl ⟨rfl, A, N, hr, rfl⟩
    · rw [if_neg h0] at g2
      have hw : whI nl.1 = nI (nl.1 - 1) := by unfold whI; rw [if_neg h0]
      refine And.intro (fun _ => ?_) (fun h3 => by rw [hw] at h3; exact absurd (nI_pos' (by omega)) h3)
      refine And.intro (fun h2 => ?_) (fun h2 => ?_)
      · rw [if_neg h2] at g2
        refine xcN (G := G) g3 (agr1 hw (c_wantedPicture d hr.1 (i := nl.1 - 1) (by omega))) ?_
        refine xwp_go g1 [] 100 _ _ _ _ ?_
        have hx : S.1 5 (nl.1 - 1) ^^^ m < 65536 := Nat.xor_lt_two_pow (n := 16) (hr.1.1.2.2.2.2.2 _ (by omega)) hm
        refine xcallR (G := G) g3 [] (ag1 (fb_xorI _ _) (c_bitCount (d + 1) [] hx)) ?_
        refine xwp_go g1 [] 100 _ _ _ _ ?_
        exact xri' (G := G) g2 rfl ⟨by rw [l2 h0], A, N, hr, rfl⟩
      · rw [if_pos h2] at g2
        exact xri' (G := G) g2 rfl ⟨by rw [hw], A, N, hr, rfl⟩
  · rw [wa_spec h] at g2
    refine xcXW (G := G) g3 (x_refused (d + 1) A N (wa_k h).1 (wa_k h).2.1 (wa_k h).2.2) ?_
    refine xwp_go g1 [] 100 _ _ _ _ ?_
    exact xri' (G := G) g2 rfl ⟨rfl, _, N, relX_no hr, rfl⟩
theorem ask_eq (n : Nat) (x p w m : Int32) : (if wsI (setB n x) = 0 then waI p w m else wsI (setB n x)) = askI n x p w m := by
  unfold askI waI wwI
  cases setB n x
  · rfl
  · rw [if_pos (show wsI true = 0 from rfl), if_neg (show ¬ true = false from by decide)]
    cases inB w 0 m <;> rfl
theorem ask_k0 {n : Nat} {x p w m : Int32} (h : ¬ askI n x p w m = 0) : 0 < refK (askI n x p w m) := by
  unfold askI at h ⊢
  split
  · decide
  · split
    · decide
    · next h1 h2 =>
      rw [if_neg h1, if_neg h2] at h
      exact bnd_k0 h
theorem x_sure (d : Nat) {S : SG} {A : Nat → Nat → Int32} {N : Nat → Int32} (hr : relX S A N) (x p w : Int32) : xCt xMs (d + 4) nX5_sure [.ref 0, .int x, .int p, .int w] (eX A N) (pXs (spSure S x p w)) := by
  have hl := lt256 hr.1.1
  refine xV (M := mX5_sure) rfl rfl rfl rfl rfl pX5_sure rfl (fun G g1 g2 g3 => ?_)
  unfold spSure at g2
  refine xwp_go g1 [] 100 _ _ _ _ ?_
  refine xcX (G := G) g3 (x_wrongSet (d + 1) hr.1 x) ?_
  refine xwp_go g1 [] 100 _ _ _ _ ?_
  refine xcallR (G := G) g3 [] (x_wrongAsked (d + 1) [] p w 2) ?_
  refine xwp_go g1 [] 100 _ _ _ _ ?_
  refine xcallR (G := G) g3 [] (x_first (d + 2) [] _ _) ?_
  rw [ask_eq]
  refine xwp_go g1 [] 100 _ _ _ _ ?_
  refine And.intro (fun h => ?_) (fun h => ?_)
  · rw [if_neg (fun z => z h)] at g2
    obtain ⟨⟨m, hm, rfl⟩, ⟨k, hk, rfl⟩, ⟨o, ho, rfl⟩⟩ := ask_0 (m := 2) (by decide) h
    rw [nI_clamp (by omega), nI_clamp (by omega)] at g2
    refine xcN (G := G) g3 (c_laid d hr.1 (set := m) (over := 0) (by omega) (by decide)) ?_
    have hkn := laidQ_lt hr.1.1 m 0
    generalize laidQ S.1 m 0 = kn at g2 hkn
    refine xwp_go g1 [] 100 _ _ _ _ ?_
    have hx : kn ^^^ (kn &&& o) < 65536 := Nat.xor_lt_two_pow (n := 16) hkn (Nat.lt_of_le_of_lt Nat.and_le_left hkn)
    dsimp only at g2
    refine And.intro (fun h' => ?_) (fun h' => ?_) <;> rw [nI_andn, show (0 : Int32) = nI 0 from rfl, nI_eq (by omega) (by decide)] at h'
    · rw [if_neg (fun z => z h')] at g2
      refine And.intro (fun h1 => ?_) (fun h1 => ?_)
      · rw [if_pos h1] at g2
        exact xri' (G := G) g2 rfl ⟨by rw [nI_andn], A, N, hr, rfl⟩
      · rw [if_neg h1] at g2
        refine And.intro (fun h2 => ?_) (fun h2 => ?_)
        · rw [if_pos h2] at g2
          exact xri' (G := G) g2 rfl ⟨by rw [show (65535 : Int32) = nI 65535 from rfl, nI_andn]; rfl, A, N, hr, rfl⟩
        · rw [if_neg h2] at g2
          refine xcallR (G := G) g3 [] (c_bitCount (d + 2) [] hkn) ?_
          refine xwp_go g1 [] 100 _ _ _ _ ?_
          have := pop_le kn
          exact xri' (G := G) g2 rfl ⟨by rw [nI_pow (by omega)], A, N, hr, rfl⟩
    · rw [if_pos h'] at g2
      exact xri' (G := G) g2 rfl ⟨rfl, A, N, hr, rfl⟩
  · rw [if_pos h] at g2
    refine xcXW (G := G) g3 (x_refused (d + 2) A N (ask_k0 h) (ask_k h).1 (ask_k h).2) ?_
    refine xwp_go g1 [] 100 _ _ _ _ ?_
    exact xri' (G := G) g2 rfl ⟨rfl, _, N, relX_no hr, rfl⟩
end
section
/-! the class's calls: count, image, restore, judge, seeds, who, dust -/
theorem x_count (d : Nat) {S : SG} {A : Nat → Nat → Int32} {N : Nat → Int32} (hr : relX S A N) (w : Int32) : xCt xMs (d + 2) nX5_count [.ref 0, .int w] (eX A N) (pXs (spCount S w, S)) := by
  obtain ⟨h0, h1, h2⟩ := hr.1.2.2.2
  refine xV (M := mX5_count) rfl rfl rfl rfl rfl pX5_count rfl (fun G g1 g2 g3 => ?_)
  unfold spCount at g2
  by_cases h : inB w 11 16 = true
  · rw [if_pos h] at g2
    obtain ⟨k, hk1, hk2, rfl⟩ := inB_of (l := 11) (m := 16) (by decide) (by decide) h
    have e : nI k - 10 = nI (k - 10) := pk_sub (b := 10) (by omega)
    refine xwp_go g1 [] 100 _ _ _ _ ?_
    refine And.intro (fun h => absurd h (nI_nlt (b := 11) hk1 (by omega))) (fun _ => ?_)
    refine And.intro (fun h => absurd h (nI_nlt (a := 16) hk2 (by decide))) (fun _ => ?_)
    refine And.intro (by rw [e]; exact vp_in_nI (by omega) (by decide)) ?_
    exact xri' (G := G) g2 rfl ⟨by rw [e, nI_clamp (by omega), hr.2.1 (k - 10) (by omega) (by omega)], A, N, hr, rfl⟩
  rw [if_neg h] at g2
  have rest : G 22 [some (.ref 0), some (.int w)] [] (eX A N) := by
    refine xwp_go g1 [] 100 _ _ _ _ ?_
    refine And.intro (fun h => ?_) (fun n0 => ?_)
    · rw [if_pos h] at g2
      exact xri' (G := G) g2 rfl ⟨by rw [h0], A, N, hr, rfl⟩
    rw [if_neg n0] at g2
    refine And.intro (fun h => ?_) (fun n0 => ?_)
    · rw [if_pos h] at g2
      exact xri' (G := G) g2 rfl ⟨by rw [h1], A, N, hr, rfl⟩
    rw [if_neg n0] at g2
    refine And.intro (fun h => ?_) (fun n0 => ?_)
    · rw [if_pos h] at g2
      exact xri' (G := G) g2 rfl ⟨by rw [h2], A, N, hr, rfl⟩
    rw [if_neg n0] at g2
    refine And.intro (fun h => ?_) (fun n0 => ?_)
    · rw [if_pos h] at g2
      refine xcN (G := G) g3 (c_allUses d hr.1) ?_
      refine xwp_go g1 [] 100 _ _ _ _ ?_
      exact xri' (G := G) g2 rfl ⟨rfl, A, N, hr, rfl⟩
    rw [if_neg n0] at g2
    refine And.intro (fun h => ?_) (fun n0 => ?_)
    · rw [if_pos h] at g2
      refine xcN (G := G) g3 (c_allPrices d hr.1) ?_
      refine xwp_go g1 [] 100 _ _ _ _ ?_
      exact xri' (G := G) g2 rfl ⟨rfl, A, N, hr, rfl⟩
    rw [if_neg n0] at g2
    refine And.intro (fun h => ?_) (fun n0 => ?_)
    · rw [if_pos h] at g2
      exact xri' (G := G) g2 rfl ⟨by rw [hr.2.2.1.1], A, N, hr, rfl⟩
    rw [if_neg n0] at g2
    refine And.intro (fun h => ?_) (fun n0 => ?_)
    · rw [if_pos h] at g2
      exact xri' (G := G) g2 rfl ⟨by rw [hr.2.2.2.1.1], A, N, hr, rfl⟩
    rw [if_neg n0] at g2
    exact xri' (G := G) g2 rfl ⟨rfl, A, N, hr, rfl⟩
  refine xwp_go g1 [22] 100 _ _ _ _ ?_
  refine And.intro (fun _ => rest) (fun h1 => ?_)
  refine And.intro (fun _ => rest) (fun h2 => ?_)
  exact absurd (decide_eq_true ⟨i_le_of_nlt h1, i_le_of_nlt h2⟩) h
/-- nothing but the lantern in mind, the search and the tour differ -/
def sameX (A : Nat → Nat → Int32) (N : Nat → Int32) (A' : Nat → Nat → Int32) (N' : Nat → Int32) : Prop := (∀ r, (r < 6 ∨ 12 ≤ r) → (r < 19 ∨ 26 ≤ r) → A' r = A r) ∧ (∀ r, (r < 3 ∨ 6 ≤ r) → (r < 10 ∨ 17 ≤ r) → N' r = N r)
theorem relX_same {S : SG} {A A' : Nat → Nat → Int32} {N N' : Nat → Int32} (h : relX S A N) (e : sameX A N A' N') : relX S A' N' := by
  obtain ⟨h1, h2, h3, h4, h5, h6⟩ := h
  obtain ⟨eA, eN⟩ := e
  have q0 := eA 0 (by decide) (by decide)
  have q1 := eA 1 (by decide) (by decide)
  have q2 := eA 2 (by decide) (by decide)
  have q3 := eA 3 (by decide) (by decide)
  have q4 := eA 4 (by decide) (by decide)
  have q5 := eA 5 (by decide) (by decide)
  have p0 := eN 0 (by decide) (by decide)
  have p1 := eN 1 (by decide) (by decide)
  have p2 := eN 2 (by decide) (by decide)
  refine ⟨?_, ?_, ?_, ?_, ?_, fun hh => ?_⟩
  · unfold relS at h1 ⊢
    rw [q0, q1, q2, q3, q4, q5, p0, p1, p2]; exact h1
  · rw [eA 27 (by decide) (by decide)]; exact h2
  · rw [eA 18 (by decide) (by decide), eN 9 (by decide) (by decide)]; exact h3
  · rw [eA 26 (by decide) (by decide), eN 17 (by decide) (by decide)]; exact h4
  · rw [eN 18 (by decide) (by decide)]; exact h5
  · have hk := h6 hh
    have a0 : A' (12 + 0) = A (12 + 0) := eA 12 (by decide) (by decide)
    have a1 : A' (12 + 1) = A (12 + 1) := eA 13 (by decide) (by decide)
    have a2 : A' (12 + 2) = A (12 + 2) := eA 14 (by decide) (by decide)
    have a3 : A' (12 + 3) = A (12 + 3) := eA 15 (by decide) (by decide)
    have a4 : A' (12 + 4) = A (12 + 4) := eA 16 (by decide) (by decide)
    have a5 : A' (12 + 5) = A (12 + 5) := eA 17 (by decide) (by decide)
    have n0 : N' (6 + 0) = N (6 + 0) := eN 6 (by decide) (by decide)
    have n1 : N' (6 + 1) = N (6 + 1) := eN 7 (by decide) (by decide)
    have n2 : N' (6 + 2) = N (6 + 2) := eN 8 (by decide) (by decide)
    unfold relS offA ofN at hk ⊢
    rw [a0, a1, a2, a3, a4, a5, n0, n1, n2]; exact hk
theorem same_0 (A : Nat → Nat → Int32) (N : Nat → Int32) : sameX A N A N := ⟨fun _ _ _ => rfl, fun _ _ _ => rfl⟩
theorem same_t {A A' A2 : Nat → Nat → Int32} {N N' N2 : Nat → Int32} (h : sameX A N A' N') (h2 : sameX A' N' A2 N2) : sameX A N A2 N2 := ⟨fun r a b => (h2.1 r a b).trans (h.1 r a b), fun r a b => (h2.2 r a b).trans (h.2 r a b)⟩
theorem same_mind (A a : Nat → Nat → Int32) (N s : Nat → Int32) : sameX A N (ptA A 6 6 a) (ptN N 3 3 s) := ⟨fun r h _ => ptA_out (by omega), fun r h _ => ptN_out (by omega)⟩
abbrev pMN : List Nat := [8, 9, 10, 11, 12, 13, 14, 1, 2, 3, 4, 5, 6, 7]
abbrev pKN : List Nat := [15, 16, 17, 18, 19, 20, 21, 1, 2, 3, 4, 5, 6, 7]
abbrev pNK : List Nat := [1, 2, 3, 4, 5, 6, 7, 15, 16, 17, 18, 19, 20, 21]
abbrev pNM : List Nat := [1, 2, 3, 4, 5, 6, 7, 8, 9, 10, 11, 12, 13, 14]
theorem xsubMN (A : Nat → Nat → Int32) (N : Nat → Int32) : xsub pMN (eL2 (offA A 6) (ofN N 3) A N) (eX A N) := rfl
theorem xputMN (A a : Nat → Nat → Int32) (N s : Nat → Int32) : xput pMN pMN (eL2 a s A N) (eX A N) = eX (ptA A 6 6 a) (ptN N 3 3 s) := rfl
theorem xsubKN (A : Nat → Nat → Int32) (N : Nat → Int32) : xsub pKN (eL2 (offA A 12) (ofN N 6) A N) (eX A N) := rfl
theorem xputKN (A a : Nat → Nat → Int32) (N s : Nat → Int32) : xput pKN pKN (eL2 a s A N) (eX A N) = eX (ptA A 12 6 a) (ptN N 6 3 s) := rfl
theorem xsubNK (A : Nat → Nat → Int32) (N : Nat → Int32) : xsub pNK (eL2 A N (offA A 12) (ofN N 6)) (eX A N) := rfl
theorem xputNK (A a : Nat → Nat → Int32) (N s : Nat → Int32) : xput pNK pNK (eL2 a s (offA A 12) (ofN N 6)) (eX A N) = eX (ptA A 0 6 a) (ptN N 0 3 s) := rfl
theorem xsubNM (A : Nat → Nat → Int32) (N : Nat → Int32) : xsub pNM (eL2 A N (offA A 6) (ofN N 3)) (eX A N) := rfl
theorem xputNM (A a : Nat → Nat → Int32) (N s : Nat → Int32) : xput pNM pNM (eL2 a s (offA A 6) (ofN N 3)) (eX A N) = eX (ptA A 0 6 a) (ptN N 0 3 s) := rfl
theorem x_image (d : Nat) {S : SG} {A : Nat → Nat → Int32} {N : Nat → Int32} (hr : relX S A N) : xCt xMs (d + 2) nX5_image [.ref 0] (eX A N) (pXs (spImage S)) := by
  refine xV (M := mX5_image) rfl rfl rfl rfl rfl pX5_image rfl (fun G g1 g2 g3 => ?_)
  refine xwp_go g1 [] 100 _ _ _ _ ?_
  refine xcall (G := G) g3 pKN (c_becomes d (a := offA A 12) (s := ofN N 6) hr.1) (fun v wc' hp _ => ?_) rfl rfl rfl rfl rfl (xsubKN A N)
  obtain ⟨rfl, a', h1, rfl⟩ := hp
  rw [xputKN]
  refine xwp_go g1 [] 100 _ _ _ _ ?_
  refine And.intro (Or.inr rfl) ?_
  obtain ⟨r1, r2, r3, r4, r5, r6⟩ := hr
  refine xri' (G := G) g2 rfl ⟨?_, ptA A 12 6 a', sU (ptN N 6 3 N) 18 1, ⟨r1, r2, r3, r4, rfl, fun _ => h1⟩, rfl⟩
  show some (Value.int (N 0)) = _
  rw [r1.2.2.2.1]; rfl
theorem x_restore (d : Nat) {S : SG} {A : Nat → Nat → Int32} {N : Nat → Int32} (hr : relX S A N) : xCt xMs (d + 2) nX5_restore [.ref 0] (eX A N) (pXs (spRestore S)) := by
  refine xV (M := mX5_restore) rfl rfl rfl rfl rfl pX5_restore rfl (fun G g1 g2 g3 => ?_)
  unfold spRestore at g2
  refine xwp_go g1 [] 100 _ _ _ _ ?_
  refine And.intro (fun h => ?_) (fun h => ?_) <;> rw [hr.2.2.2.2.1, bI_0] at h
  · rw [if_neg h] at g2
    have hk := hr.2.2.2.2.2 (Bool.not_eq_false _ ▸ h)
    refine xcall (G := G) g3 pNK (c_becomes d (a := A) (s := N) hk) (fun v wc' hp _ => ?_) rfl rfl rfl rfl rfl (xsubNK A N)
    obtain ⟨rfl, a', h1, rfl⟩ := hp
    rw [xputNK]
    refine xwp_go g1 [] 100 _ _ _ _ ?_
    obtain ⟨r1, r2, r3, r4, r5, r6⟩ := hr
    refine xri' (G := G) g2 rfl ⟨?_, ptA A 0 6 a', ptN N 0 3 (ofN N 6), ⟨h1, r2, r3, r4, r5, r6⟩, rfl⟩
    show some (Value.int (ofN N 6 0)) = _
    rw [h1.2.2.2.1]
  · rw [if_pos h] at g2
    refine xcXW (G := G) g3 (x_refused d A N (why := -3) (k := 3) (by decide) (by decide) (by decide)) ?_
    refine xwp_go g1 [] 100 _ _ _ _ ?_
    exact xri' (G := G) g2 rfl ⟨rfl, _, N, relX_no (k := 3) hr, rfl⟩
theorem x_judge (d : Nat) {S : SG} {A : Nat → Nat → Int32} {N : Nat → Int32} (hr : relX S A N) : xCt xMs (d + 5) nX5_judge [.ref 0] (eX A N) (pXs (spJudge S)) := by
  have hl := lt256 hr.1.1
  have hrr := hr
  obtain ⟨r1, r2, r3, ⟨r4, r40, r41⟩, r5, r6⟩ := hr
  refine xV (M := mX5_judge) rfl rfl rfl rfl rfl pX5_judge rfl (fun G g1 g2 g3 => ?_)
  refine xwp_go g1 [] 100 _ _ _ _ ?_
  refine xcall (G := G) g3 pMN (c_becomes (d + 3) (a := offA A 6) (s := ofN N 3) r1) (fun v wc' hp _ => ?_) rfl rfl rfl rfl rfl (xsubMN A N)
  obtain ⟨rfl, a', h1, rfl⟩ := hp
  rw [xputMN]
  have leave : ∀ (y : Int32) (z : Option Value) (A1 : Nat → Nat → Int32) (N1 : Nat → Int32), y = (jdgL S.1 S.2.2.2.1.2 S.2.2.2.1.1).1 → sameX A N A1 N1 → G 77 [some (.ref 0), some (.int y), z] [] (eX A1 N1) := by
    intro y z A1 N1 hy hs
    refine xwp_go g1 [] 100 _ _ _ _ ?_
    obtain ⟨t1, t2, t3, t4, t5, t6⟩ := relX_same hrr hs
    exact xri' (G := G) g2 rfl ⟨by rw [hy]; rfl, A1, sU N1 17 0, ⟨t1, t2, t3, ⟨rfl, Nat.zero_le _, fun i hi => absurd hi (Nat.not_lt_zero i)⟩, t5, t6⟩, rfl⟩
  refine xwp_go g1 [16] 100 _ _ _ _ ?_
  refine up (k := S.2.2.2.1.1) (P := fun k => ∀ x y A1 N1, x = nI k → y = (jdgL S.1 S.2.2.2.1.2 k).1 → relS (jdgL S.1 S.2.2.2.1.2 k).2 (offA A1 6) (ofN N1 3) → sameX A N A1 N1 → G 16 [some (.ref 0), some (.int y), some (.int x)] [] (eX A1 N1)) ?_ ?_ 0 (Nat.zero_le _) _ _ _ _ rfl rfl h1 (same_mind A a' N N)
  · intro x y A1 N1 hx hy hq hs
    subst hx
    have e17 : N1 17 = nI S.2.2.2.1.1 := (hs.2 17 (by decide) (by decide)).trans r4
    refine xwp_go g1 [16, 77] 100 _ _ _ _ ?_
    refine And.intro (fun _ => leave _ _ _ _ hy hs) (fun h => ?_)
    rw [e17] at h
    exact absurd (nI_le (Nat.le_refl _) (by omega)) h
  · intro k hk ih x y A1 N1 hx hy hq hs
    subst hx
    have e17 : N1 17 = nI S.2.2.2.1.1 := (hs.2 17 (by decide) (by decide)).trans r4
    have es : jdgL S.1 S.2.2.2.1.2 (k + 1) = if ¬ (jdgL S.1 S.2.2.2.1.2 k).1 = -9 then jdgL S.1 S.2.2.2.1.2 k else if showB ((jdgL S.1 S.2.2.2.1.2 k).2 6 0) (nI (S.2.2.2.1.2 k)) = false then (nI k, (jdgL S.1 S.2.2.2.1.2 k).2) else
    (if wishB (projQ (jdgL S.1 S.2.2.2.1.2 k).2 (S.2.2.2.1.2 k)) (laidQ (jdgL S.1 S.2.2.2.1.2 k).2 (S.2.2.2.1.2 k) 0) = true then -9 else nI k, projQ (jdgL S.1 S.2.2.2.1.2 k).2 (S.2.2.2.1.2 k)) := rfl
    refine xwp_go g1 [16, 77] 100 _ _ _ _ ?_
    refine And.intro (fun h => ?_) (fun _ => ?_)
    · rw [e17] at h
      exact absurd h (nI_ge hk (by omega))
    by_cases he : (jdgL S.1 S.2.2.2.1.2 k).1 = -9
    · rw [if_neg (fun z => z he)] at es
      refine And.intro (fun h => absurd (hy.trans he) h) (fun _ => ?_)
      have hin : vp_in (nI k) 12 := vp_in_nI (by omega) (by decide)
      have hW : A1 26 (nI k).toNatClampNeg = nI (S.2.2.2.1.2 k) := by
        rw [nI_clamp (by omega), hs.1 26 (by decide) (by decide)]
        exact (r41 k hk).1
      have hW255 := (r41 k hk).2
      refine And.intro hin ?_
      refine xcD (G := G) g3 (agr1 hW (c_isProjectable (d + 2) hq (nI (S.2.2.2.1.2 k)))) ?_
      refine xwp_go g1 [16, 77] 100 _ _ _ _ ?_
      refine And.intro (fun h' => ?_) (fun h' => ?_) <;> rw [bI_0] at h'
      · rw [if_pos h'] at es
        exact ih _ _ A1 N1 (nI_1 k) (by rw [es]) (by rw [es]; exact hq) hs
      · rw [if_neg h'] at es
        refine And.intro hin ?_
        refine xcDP (G := G) g3 (agr1 hW (c_projected d hq (set := S.2.2.2.1.2 k) (by omega))) (fun v w hp => ⟨_, _, hp.2.choose_spec.2⟩) (fun v a' s' hp => ?_)
        obtain ⟨rfl, a2, q2, q3⟩ := hp
        have e : eX (ptA A1 6 6 a') (ptN N1 3 3 s') = eX (ptA A1 6 6 a2) (ptN N1 3 3 (ofN N1 3)) := by rw [← xputMind A1 a' N1 s', ← xputMind A1 a2 N1 (ofN N1 3), q3]
        rw [e]
        have hs2 := same_t hs (same_mind A1 a2 N1 (ofN N1 3))
        refine xwp_go g1 [16, 77] 100 _ _ _ _ ?_
        refine xcD (G := G) (A := ptA A1 6 6 a2) (N := ptN N1 3 3 (ofN N1 3)) g3 (c_isWanted (d + 3) (q := projQ (jdgL S.1 S.2.2.2.1.2 k).2 (S.2.2.2.1.2 k)) q2 (laidQ_lt hq.1 _ _)) ?_
        refine xwp_go g1 [16, 77] 100 _ _ _ _ ?_
        refine And.intro (fun h5 => ?_) (fun h5 => ?_) <;> rw [bI_0] at h5
        · rw [if_pos (Bool.not_eq_false _ ▸ h5)] at es
          exact ih _ _ _ _ (nI_1 k) (by rw [es, hy, he]) (by rw [es]; exact q2) hs2
        · rw [if_neg (by rw [h5]; decide)] at es
          exact ih _ _ _ _ (nI_1 k) (by rw [es]) (by rw [es]; exact q2) hs2
    · refine And.intro (fun _ => ?_) (fun h => absurd (hy.symm.trans h) he)
      refine leave _ _ _ _ ?_ hs
      have := jdg_stay he (S.2.2.2.1.1 - k)
      rw [show k + (S.2.2.2.1.1 - k) = S.2.2.2.1.1 by omega] at this
      rw [this]; exact hy
theorem x_nextSeed (d : Nat) (ws : xH) (z : Int32) : xCt xMs (d + 1) nX5_nextSeed [.int z] ws (xRet (lcg z) ws) := by
  refine xS (M := mX5_nextSeed) rfl rfl pX5_nextSeed rfl (fun G g1 g2 g3 => ?_)
  refine xwp_go g1 [] 100 _ _ _ _ ?_
  exact xri (G := G) g2 rfl rfl rfl
theorem x_drawBelow (d : Nat) (ws : xH) (z : Int32) {n : Nat} (h0 : 0 < n) (h8 : n ≤ 8) : xCt xMs (d + 1) nX5_drawBelow [.int z, .int (nI n)] ws (xRet (nI (drw z n)) ws) := by
  refine xS (M := mX5_drawBelow) rfl rfl pX5_drawBelow rfl (fun G g1 g2 g3 => ?_)
  refine xwp_go g1 [] 100 _ _ _ _ ?_
  refine And.intro (fun h => ?_) (fun _ => ?_)
  · rw [show (0 : Int32) = nI 0 from rfl, nI_leI (by omega) (by decide)] at h
    omega
  refine And.intro (by decide) (And.intro (nI_ne0 h0 (by omega)) ?_)
  exact xri (G := G) g2 rfl (drwI z h0 h8) rfl
theorem x_seeds (d : Nat) {S : SG} {A : Nat → Nat → Int32} {N : Nat → Int32} (hr : relX S A N) (n z : Int32) : xCt xMs (d + 5) nX5_seeds [.ref 0, .int n, .int z] (eX A N) (pXs (spSeeds S n z)) := by
  have hl := lt256 hr.1.1
  have p8 := hr.1.1.1
  refine xV (M := mX5_seeds) rfl rfl rfl rfl rfl pX5_seeds rfl (fun G g1 g2 g3 => ?_)
  unfold spSeeds at g2
  refine xwp_go g1 [] 100 _ _ _ _ ?_
  refine xcallR (G := G) g3 [] (x_wrongNumber (d + 3) [] n 1 40) ?_
  refine xwp_go g1 [] 100 _ _ _ _ ?_
  refine And.intro (fun h => ?_) (fun h => ?_)
  · rw [if_pos h] at g2
    refine And.intro (fun h' => absurd h' h) (fun _ => ?_)
    refine xcXW (G := G) g3 (x_refused (d + 3) A N (bnd_k0 h) (bnd_k h).1 (bnd_k h).2) ?_
    refine xwp_go g1 [] 100 _ _ _ _ ?_
    exact xri' (G := G) g2 rfl ⟨rfl, _, N, relX_no hr, rfl⟩
  rw [if_neg (fun z => z h)] at g2
  obtain ⟨nn, hn1, hn40, rfl⟩ := bnd_0 (l := 1) (m := 40) (by decide) (by decide) h
  refine And.intro (fun h0 => ?_) (fun h0 => ?_) <;> rw [hr.1.2.2.2.1, show (0 : Int32) = nI 0 from rfl, nI_eq (by omega) (by decide)] at h0
  · rw [if_neg h0, nI_clamp (by omega)] at g2
    refine And.intro (fun _ => ?_) (fun h' => absurd h h')
    generalize bndI (nI nn) 1 40 = why
    refine xcall (G := G) g3 pMN (c_becomes (d + 3) (a := offA A 6) (s := ofN N 3) hr.1) (fun v wc' hp _ => ?_) rfl rfl rfl rfl rfl (xsubMN A N)
    obtain ⟨rfl, a', h1, rfl⟩ := hp
    rw [xputMN]
    refine xwp_go g1 [55] 100 _ _ _ _ ?_
    refine up (k := nn) (P := fun k => ∀ x y zz A1 N1 u7, x = nI k → zz = (sdL S.1 z k).1 → y = nI (sdL S.1 z k).2.2 → relS (sdL S.1 z k).2.1 (offA A1 6) (ofN N1 3) → sameX A N A1 N1 → G 55 [some (.ref 0), some (.int (nI nn)), some (.int z), some (.int why), some (.int y), some (.int zz), some (.int x), u7] [] (eX A1 N1)) ?_ ?_ 0 (Nat.zero_le _) _ _ _ _ _ _ rfl rfl rfl h1 (same_mind A a' N N)
    · intro x y zz A1 N1 u7 hx hz hy hq hs
      subst hx; subst hy; subst hz
      refine xwp_go g1 [55] 100 _ _ _ _ ?_
      refine And.intro (fun _ => ?_) (fun h => absurd (nI_le (Nat.le_refl _) (by omega)) h)
      exact xri' (G := G) g2 rfl ⟨rfl, A1, N1, relX_same hr hs, rfl⟩
    · intro k hk ih x y zz A1 N1 u7 hx hz hy hq hs
      subst hx; subst hy; subst hz
      have hN : N1 3 = nI (S.1 6 0) := by
        have := hq.2.2.2.1
        rw [sd_6] at this
        exact this
      have d1 := drw_lt (lcg (sdL S.1 z k).1) (n := S.1 6 0) (by omega)
      have d2 := drw_lt (lcg (lcg (sdL S.1 z k).1)) (n := S.1 6 0) (by omega)
      have hset := two_lt d1 d2
      refine xwp_go g1 [55] 100 _ _ _ _ ?_
      refine And.intro (fun h => absurd h (nI_ge hk (by omega))) (fun _ => ?_)
      refine xcallR (G := G) g3 [] (x_nextSeed (d + 3) [] _) ?_
      refine xwp_go g1 [55] 100 _ _ _ _ ?_
      refine xcallR (G := G) g3 [] (ag2 rfl hN (x_drawBelow (d + 3) [] _ (by omega) p8)) ?_
      refine xwp_go g1 [55] 100 _ _ _ _ ?_
      refine xcallR (G := G) g3 [] (x_nextSeed (d + 3) [] _) ?_
      refine xwp_go g1 [55] 100 _ _ _ _ ?_
      refine xcallR (G := G) g3 [] (ag2 rfl hN (x_drawBelow (d + 3) [] _ (by omega) p8)) ?_
      refine xwp_go g1 [55] 100 _ _ _ _ ?_
      have eset : (1 : Int32) <<< (nI (drw (lcg (sdL S.1 z k).1) (S.1 6 0)) &&& 31) ||| (1 : Int32) <<< (nI (drw (lcg (lcg (sdL S.1 z k).1)) (S.1 6 0)) &&& 31) = nI (2 ^ drw (lcg (sdL S.1 z k).1) (S.1 6 0) ||| 2 ^ drw (lcg (lcg (sdL S.1 z k).1)) (S.1 6 0)) := by
        rw [nI_pow (by omega), nI_pow (by omega), fa_or]
      refine xcDP (G := G) g3 (agr1 eset (c_projected d hq (by omega))) (fun v w hp => ⟨_, _, hp.2.choose_spec.2⟩) (fun v a' s' hp => ?_)
      obtain ⟨rfl, a2, q2, q3⟩ := hp
      have e : eX (ptA A1 6 6 a') (ptN N1 3 3 s') = eX (ptA A1 6 6 a2) (ptN N1 3 3 (ofN N1 3)) := by rw [← xputMind A1 a' N1 s', ← xputMind A1 a2 N1 (ofN N1 3), q3]
      rw [e]
      refine xwp_go g1 [55] 100 _ _ _ _ ?_
      refine xcallR (G := G) g3 [] (c_bitCount (d + 3) [] (laidQ_lt hq.1 _ _)) ?_
      refine xwp_go g1 [55] 100 _ _ _ _ ?_
      exact ih _ _ _ _ _ _ (nI_1 k) rfl (by rw [nI_add]; rfl) q2 (same_t hs (same_mind A1 a2 N1 (ofN N1 3)))
  · rw [if_pos h0] at g2
    refine And.intro (fun h' => absurd h' (by decide)) (fun _ => ?_)
    refine xcXW (G := G) g3 (x_refused (d + 3) A N (why := -3) (k := 3) (by decide) (by decide) (by decide)) ?_
    refine xwp_go g1 [] 100 _ _ _ _ ?_
    exact xri' (G := G) g2 rfl ⟨rfl, _, N, relX_no (k := 3) hr, rfl⟩
end
section
/-! the class's calls: who, dust -/
theorem crackL_le (o on p : Nat) : ∀ c, crackL o on p c ≤ c
  | 0 => Nat.le_refl _
  | c + 1 => by
    have ih := crackL_le o on p c
    show crackL o on p c + (if on.testBit c ∧ o ||| clr on c = p then 1 else 0) ≤ c + 1
    split <;> omega
theorem whoL_out {q : LQ} {m o n : Nat} (hm : m < 2 ^ n) : ∀ k, whoL q m o (n + k) = whoL q m o n
  | 0 => rfl
  | k + 1 => by
    show (if m.testBit (n + k) then _ else whoL q m o (n + k)) = _
    rw [if_neg (by rw [Nat.testBit_lt_two_pow (Nat.lt_of_lt_of_le hm (Nat.pow_le_pow_right (by decide) (by omega)))]; decide), whoL_out hm k]
theorem x_who (d : Nat) {S : SG} {A : Nat → Nat → Int32} {N : Nat → Int32} (hr : relX S A N) (x p w : Int32) : xCt xMs (d + 5) nX5_who [.ref 0, .int x, .int p, .int w] (eX A N) (pXs (spWho S x p w)) := by
  have hl := lt256 hr.1.1
  have h8 := hr.1.1.1
  refine xV (M := mX5_who) rfl rfl rfl rfl rfl pX5_who rfl (fun G g1 g2 g3 => ?_)
  unfold spWho at g2
  refine xwp_go g1 [] 100 _ _ _ _ ?_
  refine xcX (G := G) g3 (x_wrongSet (d + 2) hr.1 x) ?_
  refine xwp_go g1 [] 100 _ _ _ _ ?_
  refine xcallR (G := G) g3 [] (x_wrongAsked (d + 2) [] p w 1) ?_
  refine xwp_go g1 [] 100 _ _ _ _ ?_
  refine xcallR (G := G) g3 [] (x_first (d + 3) [] _ _) ?_
  rw [ask_eq]
  refine xwp_go g1 [] 100 _ _ _ _ ?_
  refine And.intro (fun h => ?_) (fun h => ?_)
  · rw [if_neg (fun z => z h)] at g2
    generalize hwhy : askI (S.1 6 0) x p w 1 = why at *
    obtain ⟨⟨m, hm, rfl⟩, ⟨k, hk, rfl⟩, ⟨o, ho, rfl⟩⟩ := ask_0 (m := 1) (by decide) (hwhy.trans h)
    rw [nI_clamp (by omega), nI_clamp (by omega)] at g2
    have hla := laidQ_lt hr.1.1 m 0
    refine xcN (G := G) g3 (c_laid (d + 1) hr.1 (set := m) (over := 0) (by omega) (by decide)) ?_
    refine xwp_go g1 [52] 100 _ _ _ _ ?_
    refine And.intro (fun hs => ?_) (fun hs => ?_) <;> rw [nI_eq (by omega) (by omega)] at hs
    · rw [if_neg hs, ← whoL_out (q := S.1) (o := o) hm (8 - S.1 6 0), show S.1 6 0 + (8 - S.1 6 0) = 8 by omega] at g2
      refine up (k := 8) (P := fun i => ∀ x y z u8, x = nI i → y = nI (whoL S.1 m o i).1 → z = nI (whoL S.1 m o i).2 → G 52 [some (.ref 0), some (.int (nI m)), some (.int (nI o)), some (.int (nI k)), some (.int why), some (.int y), some (.int z), some (.int x), u8] [] (eX A N)) ?_ ?_ 0 (Nat.zero_le _) _ _ _ _ rfl rfl rfl
      · intro x y z u8 hx hy hz
        subst hx; subst hy; subst hz
        refine xwp_go g1 [52] 100 _ _ _ _ ?_
        refine And.intro (fun _ => ?_) (fun h3 => absurd (by decide) h3)
        refine And.intro (fun h4 => ?_) (fun h4 => ?_)
        · rw [if_neg h4] at g2
          exact xri' (G := G) g2 rfl ⟨rfl, A, N, hr, rfl⟩
        · rw [if_pos h4] at g2
          exact xri' (G := G) g2 rfl ⟨rfl, A, N, hr, rfl⟩
      · intro i hi ih x y z u8 hx hy hz
        subst hx; subst hy; subst hz
        refine xwp_go g1 [52] 100 _ _ _ _ ?_
        refine And.intro (fun h3 => absurd h3 (nI_ge (b := 8) hi (by decide))) (fun _ => ?_)
        refine And.intro (fun h3 => ?_) (fun h3 => ?_) <;> rw [nI_bit0 (by omega) (by omega)] at h3
        · have es : whoL S.1 m o (i + 1) = whoL S.1 m o i := by
            show (if m.testBit i then _ else _) = _
            rw [if_neg (by rw [h3]; decide)]
          refine And.intro (fun _ => ?_) (fun h4 => absurd (by decide) h4)
          exact ih _ _ _ _ (nI_1 i) (by rw [es]) (by rw [es, Int32.add_zero])
        · rw [Bool.not_eq_false] at h3
          have hin : i < S.1 6 0 := by
            rcases Nat.lt_or_ge i (S.1 6 0) with h | h
            · exact h
            · rw [Nat.testBit_lt_two_pow (Nat.lt_of_lt_of_le hm (Nat.pow_le_pow_right (by decide) h))] at h3
              exact absurd h3 (by decide)
          have es : whoL S.1 m o (i + 1) = ((if crackL (laidQ S.1 (clr m i) 0) (onQ S.1 i) o 16 = 0 then (whoL S.1 m o i).1 else (whoL S.1 m o i).1 ||| 2 ^ i), (whoL S.1 m o i).2 + crackL (laidQ S.1 (clr m i) 0) (onQ S.1 i) o 16) := by
            show (if m.testBit i then _ else _) = _
            rw [if_pos h3]
          refine xcN (G := G) g3 (c_cracksToShow d hr.1 (set := m) (by omega) hin ho) ?_
          have hc := crackL_le (laidQ S.1 (clr m i) 0) (onQ S.1 i) o 16
          generalize crackL (laidQ S.1 (clr m i) 0) (onQ S.1 i) o 16 = c at hc es
          refine xwp_go g1 [52] 100 _ _ _ _ ?_
          refine And.intro (fun h4 => ?_) (fun h4 => ?_) <;> rw [show (0 : Int32) = nI 0 from rfl, nI_leI (by omega) (by decide)] at h4
          · exact ih _ _ _ _ (nI_1 i) (by rw [es, if_pos (show c = 0 by omega)]) (by rw [es, nI_add])
          · exact ih _ _ _ _ (nI_1 i) (by rw [es, if_neg (show ¬ c = 0 by omega), nI_pow (by omega), fa_or]) (by rw [es, nI_add])
    · rw [if_pos hs] at g2
      exact xri' (G := G) g2 rfl ⟨rfl, A, N, hr, rfl⟩
  · rw [if_pos h] at g2
    refine xcXW (G := G) g3 (x_refused (d + 3) A N (ask_k0 h) (ask_k h).1 (ask_k h).2) ?_
    refine xwp_go g1 [] 100 _ _ _ _ ?_
    exact xri' (G := G) g2 rfl ⟨rfl, _, N, relX_no hr, rfl⟩
theorem x_power (d : Nat) (ws : xH) {b : Nat} (hb : b < 2 ^ 31) {c : Nat} (hc : c < 2 ^ 31) : xCt xMs (d + 1) nX5_power [.int (nI b), .int (nI c)] ws (xRetL (lN (b ^ c)) ws) := by
  refine xS (M := mX5_power) rfl rfl pX5_power rfl (fun G g1 g2 g3 => ?_)
  refine xwp_go g1 [5] 100 _ _ _ _ ?_
  refine up (k := c) (P := fun i => ∀ x y, x = nI i → y = lN (b ^ i) → G 5 [some (.int (nI b)), some (.int (nI c)), some (.long y), none, some (.int x)] [] ws) ?_ ?_ 0 (Nat.zero_le _) _ _ rfl rfl
  · intro x y hx hy
    subst hx; subst hy
    refine xwp_go g1 [5] 100 _ _ _ _ ?_
    exact And.intro (fun _ => xrl (G := G) g2 rfl rfl rfl) (fun h => absurd (nI_le (Nat.le_refl _) hc) h)
  · intro i hi ih x y hx hy
    subst hx; subst hy
    refine xwp_go g1 [5] 100 _ _ _ _ ?_
    refine And.intro (fun h => absurd h (nI_ge hi hc)) (fun _ => ?_)
    exact ih _ _ (nI_1 i) (by rw [nI_l hb, lN_mul, Nat.pow_succ])
def rdN (t : Nat) : Nat → Nat × Nat
  | 0 => (10 - t, 10)
  | k + 1 => if (rdN t k).1 % (k + 2) = 0 ∧ (rdN t k).2 % (k + 2) = 0 then ((rdN t k).1 / (k + 2), (rdN t k).2 / (k + 2)) else rdN t k
theorem rdN_le (t : Nat) : ∀ k, (rdN t k).1 ≤ 10 ∧ (rdN t k).2 ≤ 10
  | 0 => ⟨Nat.sub_le _ _, Nat.le_refl _⟩
  | k + 1 => by
    have ih := rdN_le t k
    unfold rdN
    split
    · exact ⟨Nat.le_trans (Nat.div_le_self _ _) ih.1, Nat.le_trans (Nat.div_le_self _ _) ih.2⟩
    · exact ih
theorem rd_dust : ∀ t, t < 10 → ∀ c, c < 17 → (rdN t 4).1 ^ c = dustN t 0 c ∧ (rdN t 4).2 ^ c = dustN t 1 c := by decide +kernel
def pXl (x : Int64 × SG) : xPost := fun v w => v = some (.long x.1) ∧ ∃ A N, relX x.2 A N ∧ w = eX A N
theorem x_dust (d : Nat) {S : SG} {A : Nat → Nat → Int32} {N : Nat → Int32} (hr : relX S A N) (x t p : Int32) : xCt xMs (d + 4) nX5_dust [.ref 0, .int x, .int t, .int p] (eX A N) (pXl (spDust S x t p)) := by
  have hl := lt256 hr.1.1
  refine xV (M := mX5_dust) rfl rfl rfl rfl rfl pX5_dust rfl (fun G g1 g2 g3 => ?_)
  unfold spDust at g2
  refine xwp_go g1 [] 100 _ _ _ _ ?_
  refine xcX (G := G) g3 (x_wrongSet (d + 1) hr.1 x) ?_
  refine xwp_go g1 [] 100 _ _ _ _ ?_
  refine xcallR (G := G) g3 [] (x_wrongWhat (d + 2) [] p 1) ?_
  refine xwp_go g1 [] 100 _ _ _ _ ?_
  refine xcallR (G := G) g3 [] (x_first (d + 2) [] _ _) ?_
  refine xwp_go g1 [] 100 _ _ _ _ ?_
  refine xcallR (G := G) g3 [] (x_wrongNumber (d + 2) [] t 0 9) ?_
  refine xwp_go g1 [] 100 _ _ _ _ ?_
  refine xcallR (G := G) g3 [] (x_first (d + 2) [] _ _) ?_
  have low : ∀ {why : Int32} {loc : xL} {k : Nat}, 0 < k → k < 7 → -why = nI k → k = refK why → xG2 mX5_dust.2.2.2.2.1 mX5_dust.2.2.2.1 (pXl (rfl8 S why)) G → G 34 [some (.ref 0), some (.int x), some (.int t), some (.int p), some (.int why), none, none, none, none] [] (eX A N) := by
    intro why loc k hk0 hk hw hkk g2
    refine xwp_go g1 [] 100 _ _ _ _ ?_
    refine xcXW (G := G) g3 (x_refused (d + 2) A N hk0 hk hw) ?_
    refine xwp_go g1 [] 100 _ _ _ _ ?_
    exact xrl' (G := G) g2 rfl ⟨rfl, _, N, by show relX (refu S (refK why)) _ N; rw [← hkk]; exact relX_no hr, rfl⟩
  by_cases h1 : setB (S.1 6 0) x = false
  · rw [if_pos h1] at g2
    rw [h1, show (if (if wsI false = 0 then wwI p 1 else wsI false) = 0 then bndI t 0 9 else (if wsI false = 0 then wwI p 1 else wsI false)) = -1 from rfl]
    refine xwp_go g1 [34] 100 _ _ _ _ ?_
    refine And.intro (fun h => absurd h (by decide)) (fun _ => low (loc := []) (k := 1) (by decide) (by decide) (by decide) (by decide) g2)
  rw [if_neg h1] at g2
  have h1' : setB (S.1 6 0) x = true := Bool.not_eq_false _ ▸ h1
  rw [h1', show (if wsI true = 0 then wwI p 1 else wsI true) = wwI p 1 from rfl]
  obtain ⟨m, hm, rfl⟩ := setB_of h1'
  by_cases h2 : inB p 0 1 = false
  · rw [if_pos h2] at g2
    rw [show wwI p 1 = -2 from by unfold wwI; rw [if_pos h2], show (if (-2 : Int32) = 0 then bndI t 0 9 else -2) = -2 from rfl]
    refine xwp_go g1 [34] 100 _ _ _ _ ?_
    refine And.intro (fun h => absurd h (by decide)) (fun _ => low (loc := []) (k := 2) (by decide) (by decide) (by decide) (by decide) g2)
  rw [if_neg h2] at g2
  have h2' : inB p 0 1 = true := Bool.not_eq_false _ ▸ h2
  rw [show wwI p 1 = 0 from wwI_0.mpr h2', if_pos rfl]
  refine xwp_go g1 [34, 76] 100 _ _ _ _ ?_
  refine And.intro (fun h3 => ?_) (fun h3 => ?_)
  · rw [if_neg (fun z => z h3)] at g2
    obtain ⟨tn, -, ht, rfl⟩ := bnd_0 (l := 0) (m := 9) (by decide) (by decide) h3
    obtain ⟨pn, -, hpn, rfl⟩ := inB_of (l := 0) (m := 1) (by decide) (by decide) h2'
    rw [nI_clamp (by omega), nI_clamp (by omega), nI_clamp (by omega)] at g2
    generalize bndI (nI tn) 0 9 = why
    have hla := laidQ_lt hr.1.1 m 0
    refine xcN (G := G) g3 (c_laid d hr.1 (set := m) (over := 0) (by omega) (by decide)) ?_
    refine xwp_go g1 [76] 100 _ _ _ _ ?_
    refine xcallR (G := G) g3 [] (c_bitCount (d + 2) [] hla) ?_
    have hb := pop_le (laidQ S.1 m 0)
    generalize pop (laidQ S.1 m 0) = b at g2 hb
    have e16 : (16 : Int32) - nI b = nI (16 - b) := pk_sub (a := 16) hb
    have e10 : (10 : Int32) - nI tn = nI (10 - tn) := pk_sub (a := 10) (by omega)
    refine xwp_go g1 [76] 100 _ _ _ _ ?_
    refine up (k := 4) (P := fun i => ∀ c x y z, c = nI (16 - b) → x = nI (i + 2) → y = nI (rdN tn i).1 → z = nI (rdN tn i).2 → G 76 [some (.ref 0), some (.int (nI m)), some (.int (nI tn)), some (.int (nI pn)), some (.int why), some (.int c), some (.int y), some (.int z), some (.int x)] [] (eX A N)) ?_ ?_ 0 (Nat.zero_le _) _ _ _ _ e16 rfl e10 rfl
    · intro c x y z hc hx hy hz
      subst hc; subst hx; subst hy; subst hz
      have hd := rd_dust tn (by omega) (16 - b) (by omega)
      have hle := rdN_le tn 4
      refine xwp_go g1 [76] 100 _ _ _ _ ?_
      refine And.intro (fun _ => ?_) (fun h => absurd (by decide) h)
      refine And.intro (fun h4 => ?_) (fun h4 => ?_) <;> rw [show (0 : Int32) = nI 0 from rfl, nI_eq (by omega) (by decide)] at h4
      · refine xcall (G := G) g3 [] (x_power (d + 2) [] (b := (rdN tn 4).2) (c := 16 - b) (by omega) (by omega)) (fun v wc' hp _ => ?_)
        obtain ⟨rfl, rfl⟩ := hp
        refine xwp_go g1 [76] 100 _ _ _ _ ?_
        exact xrl' (G := G) g2 rfl ⟨by rw [hd.2, show pn = 1 by omega], A, N, hr, rfl⟩
      · refine xcall (G := G) g3 [] (x_power (d + 2) [] (b := (rdN tn 4).1) (c := 16 - b) (by omega) (by omega)) (fun v wc' hp _ => ?_)
        obtain ⟨rfl, rfl⟩ := hp
        refine xwp_go g1 [76] 100 _ _ _ _ ?_
        exact xrl' (G := G) g2 rfl ⟨by rw [hd.1, h4], A, N, hr, rfl⟩
    · intro i hi ih c x y z hc hx hy hz
      subst hc; subst hx; subst hy; subst hz
      obtain ⟨l1, l2⟩ := rdN_le tn i
      have es : rdN tn (i + 1) = if (rdN tn i).1 % (i + 2) = 0 ∧ (rdN tn i).2 % (i + 2) = 0 then ((rdN tn i).1 / (i + 2), (rdN tn i).2 / (i + 2)) else rdN tn i := rfl
      have hne : ¬ nI (i + 2) = 0 := nI_ne0 (by omega) (by omega)
      have m1 : (rdN tn i).1 % (i + 2) ≤ 10 := Nat.le_trans (Nat.mod_le _ _) l1
      have m2 : (rdN tn i).2 % (i + 2) ≤ 10 := Nat.le_trans (Nat.mod_le _ _) l2
      refine xwp_go g1 [76] 100 _ _ _ _ ?_
      refine And.intro (fun h => absurd h (nI_nlt (a := 5) (by omega) (by decide))) (fun _ => ?_)
      refine And.intro hne ?_
      refine And.intro (fun h4 => ?_) (fun h4 => ?_) <;> rw [pk_rem (by omega) (by omega) (by omega), show (0 : Int32) = nI 0 from rfl, nI_eq (by omega) (by decide)] at h4
      · refine ih _ _ _ _ rfl (by rw [nI_1]) ?_ ?_ <;> rw [es, if_neg (fun z => h4 z.1)]
      refine And.intro hne ?_
      refine And.intro (fun h5 => ?_) (fun h5 => ?_) <;> rw [pk_rem (by omega) (by omega) (by omega), show (0 : Int32) = nI 0 from rfl, nI_eq (by omega) (by decide)] at h5
      · refine And.intro hne (And.intro hne ?_)
        refine ih _ _ _ _ rfl (by rw [nI_1]) ?_ ?_ <;> rw [es, if_pos ⟨h4, h5⟩, pk_div (by omega) (by omega) (by omega)]
      · refine ih _ _ _ _ rfl (by rw [nI_1]) ?_ ?_ <;> rw [es, if_neg (fun z => h5 z.2)]
  · rw [if_pos h3] at g2
    exact low (loc := []) (bnd_k0 h3) (bnd_k h3).1 (bnd_k h3).2 rfl g2
end
section
/-! the class's Search: what it does, in numbers; its contracts -/
def encO : Option Nat → Int32
  | none => -1
  | some x => nI x
def dk : Option Nat → Nat
  | none => 0
  | some x => x
/-- straight, turned, prices, reach, target -/
abbrev LD : Type := (Nat → Option Nat) × (Nat → Option Nat) × (Nat → Nat) × (Nat → Nat) × Nat
def eS (b : Nat → Nat → Int32) (t : Nat → Int32) : xH := [.inr (2, [.ref 1, .ref 2, .ref 3, .ref 4, .int (t 0), .int (t 1), .int (t 2), .int (t 3), .int (t 4), .int (t 5), .int (t 6)]), .inl (8, b 0), .inl (8, b 1), .inl (8, b 2), .inl (9, b 3)]
abbrev pS : List Nat := [0, 1, 2, 3, 4]
theorem xputS (b b' : Nat → Nat → Int32) (t t' : Nat → Int32) : xput pS pS (eS b' t') (eS b t) = eS b' t' := rfl
def ldS (D : LD) (n : Nat) (b : Nat → Nat → Int32) (t : Nat → Int32) : Prop := n ≤ 8 ∧ D.2.2.2.2 < 65536 ∧ t 0 = nI n ∧ t 1 = nI D.2.2.2.2 ∧ (∀ i, i < n → b 0 i = encO (D.1 i) ∧ b 1 i = encO (D.2.1 i) ∧ b 2 i = nI (D.2.2.1 i) ∧ (∀ x, D.1 i = some x → x < 65536) ∧ (∀ x, D.2.1 i = some x → x < 65536) ∧ D.2.2.1 i ≤ 99) ∧ ∀ i, i ≤ n → b 3 i = nI (D.2.2.2.1 i) ∧ D.2.2.2.1 i < 65536
def outB (D : LD) (i sh : Nat) : Bool := !decide (D.2.2.2.2 ^^^ (D.2.2.2.2 &&& (sh ||| D.2.2.2.1 i)) = 0)
theorem encO_n {o : Option Nat} (h : ∀ x, o = some x → x < 65536) : encO o = -1 ↔ o = none := by
  cases o with
  | none => exact ⟨fun _ => rfl, fun _ => rfl⟩
  | some x =>
    have := h x rfl
    constructor
    · intro e
      have h1 := nI_pos' (n := x) (by omega)
      rw [show nI x = -1 from e] at h1
      exact absurd h1 (by decide)
    · intro e; cases e
theorem t_dark (d : Nat) (ws : xH) {o : Option Nat} (h : ∀ x, o = some x → x < 65536) {v : Int32} (hv : v = encO o) : xCt xMs (d + 1) nX3_dark [.int v] ws (xRet (nI (dk o)) ws) := by
  refine xS (M := mX3_dark) rfl rfl pX3_dark rfl (fun G g1 g2 g3 => ?_)
  refine xwp_go g1 [] 100 _ _ _ _ ?_
  refine And.intro (fun h1 => ?_) (fun h1 => ?_) <;> rw [hv, encO_n h] at h1
  · refine xri (G := G) g2 rfl ?_ rfl
    rw [hv]
    cases o with
    | none => exact absurd rfl h1
    | some x => rfl
  · exact xri (G := G) g2 rfl (by rw [h1]; rfl) rfl
def layO (x al : Nat) : Option Nat := if x ^^^ (x &&& al) = 0 then some x else none
theorem layO_lt {x al : Nat} (h : x < 65536) : ∀ y, layO x al = some y → y < 65536 := by
  intro y hy
  unfold layO at hy
  split at hy
  · cases hy; exact h
  · cases hy
theorem t_usable (d : Nat) (ws : xH) {x al : Nat} (hx : x < 65536) (ha : al < 65536) : xCt xMs (d + 1) nX3_usable [.int (nI x), .int (nI al)] ws (xRet (encO (layO x al)) ws) := by
  have hlt : x ^^^ (x &&& al) < 65536 := Nat.xor_lt_two_pow (n := 16) hx (Nat.lt_of_le_of_lt Nat.and_le_left hx)
  refine xS (M := mX3_usable) rfl rfl pX3_usable rfl (fun G g1 g2 g3 => ?_)
  unfold layO at g2
  refine xwp_go g1 [] 100 _ _ _ _ ?_
  refine And.intro (fun h1 => ?_) (fun h1 => ?_) <;> rw [nI_andn, show (0 : Int32) = nI 0 from rfl, nI_eq (by omega) (by decide)] at h1
  · rw [if_neg h1] at g2
    exact xri (G := G) g2 rfl rfl rfl
  · rw [if_pos h1] at g2
    exact xri (G := G) g2 rfl rfl rfl
theorem t_out (d : Nat) {D : LD} {n : Nat} {b : Nat → Nat → Int32} {t : Nat → Int32} (hl : ldS D n b t) {i sh : Nat} (hi : i ≤ n) (hs : sh < 65536) : xCt xMs (d + 1) nX3_isOutOfReach [.ref 0, .int (nI i), .int (nI sh)] (eS b t) (xRet (bI (outB D i sh)) (eS b t)) := by
  obtain ⟨h8, hp, h0, h1, hb, hR⟩ := hl
  have hlt : D.2.2.2.2 ^^^ (D.2.2.2.2 &&& (sh ||| D.2.2.2.1 i)) < 65536 := Nat.xor_lt_two_pow (n := 16) hp (Nat.lt_of_le_of_lt Nat.and_le_left hp)
  have e : t 1 &&& ((nI sh ||| b 3 (nI i).toNatClampNeg) ^^^ (-1)) = nI (D.2.2.2.2 ^^^ (D.2.2.2.2 &&& (sh ||| D.2.2.2.1 i))) := by
    rw [nI_clamp (by omega), h1, (hR i hi).1, fa_or, nI_andn]
  refine xV (M := mX3_isOutOfReach) rfl rfl rfl rfl rfl pX3_isOutOfReach rfl (fun G g1 g2 g3 => ?_)
  unfold outB at g2
  refine xwp_go g1 [] 100 _ _ _ _ ?_
  refine And.intro (vp_in_nI (by omega) (by decide)) ?_
  refine And.intro (fun h => ?_) (fun h => ?_) <;> rw [e, show (0 : Int32) = nI 0 from rfl, nI_eq (by omega) (by decide)] at h
  · exact xrz (G := G) g2 rfl (Or.inl rfl) (by rw [decide_eq_true h]; rfl) rfl
  · exact xrz (G := G) g2 rfl (Or.inr rfl) (by rw [decide_eq_false h]; rfl) rfl
/-- fewest: how many, the set, turned over, ways -/
abbrev FF : Type := Nat × Nat × Nat × Nat
def noteF (F : FF) (set ov : Nat) : FF := (pop set, if pop set < F.1 ∨ set < F.2.1 ∨ (set = F.2.1 ∧ ov < F.2.2.1) then set else F.2.1, if pop set < F.1 ∨ set < F.2.1 ∨ (set = F.2.1 ∧ ov < F.2.2.1) then ov else F.2.2.1, if pop set < F.1 then 1 else F.2.2.2 + 1)
def onO {α : Type} (o : Option Nat) (F : α) (k : Nat → α) : α := match o with
  | none => F
  | some x => k x
def skF (D : LD) : Nat → Nat → Nat → Nat → Nat → FF → FF
  | 0, i, sh, set, ov, F => if outB D i sh = true then F else if F.1 < pop set then F else noteF F set ov
  | j + 1, i, sh, set, ov, F => if outB D i sh = true then F else if F.1 < pop set then F else
    onO (D.2.1 i) (onO (D.1 i) (skF D j (i + 1) sh set ov F) (fun x => skF D j (i + 1) (sh ||| x) (set ||| 2 ^ i) ov (skF D j (i + 1) sh set ov F)))
      (fun x => skF D j (i + 1) (sh ||| x) (set ||| 2 ^ i) (ov ||| 2 ^ i) (onO (D.1 i) (skF D j (i + 1) sh set ov F) (fun x => skF D j (i + 1) (sh ||| x) (set ||| 2 ^ i) ov (skF D j (i + 1) sh set ov F))))
def okF (F : FF) : Prop := F.1 ≤ 16 ∧ F.2.1 < 256 ∧ F.2.2.1 < 256
def tF (t : Nat → Int32) (F : FF) : Nat → Int32 := sU (sU (sU (sU t 3 (nI F.1)) 4 (nI F.2.1)) 5 (nI F.2.2.1)) 6 (nI F.2.2.2)
theorem noteF_ok {F : FF} (h : okF F) {set ov : Nat} (hs : set < 256) (ho : ov < 256) : okF (noteF F set ov) := by
  obtain ⟨h1, h2, h3⟩ := h
  refine ⟨pop_le _, ?_, ?_⟩
  · show (if _ then _ else _) < 256
    split <;> omega
  · show (if _ then _ else _) < 256
    split <;> omega
theorem bitS_lt {m i : Nat} (h : m < 2 ^ i) : m ||| 2 ^ i < 2 ^ (i + 1) := Nat.or_lt_two_pow (Nat.lt_trans h (Nat.pow_lt_pow_right (by decide) (Nat.lt_succ_self i))) (Nat.pow_lt_pow_right (by decide) (Nat.lt_succ_self i))
theorem up1 {m i : Nat} (h : m < 2 ^ i) : m < 2 ^ (i + 1) := Nat.lt_trans h (Nat.pow_lt_pow_right (by decide) (Nat.lt_succ_self i))
theorem lt_256 {m i : Nat} (h : m < 2 ^ i) (hi : i ≤ 8) : m < 256 := Nat.lt_of_lt_of_le h (Nat.pow_le_pow_right (n := 2) (by decide) hi)
theorem skF_ok (D : LD) {n : Nat} (hn : n ≤ 8) : ∀ j i sh set ov F, i + j = n → set < 2 ^ i → ov < 2 ^ i → okF F → okF (skF D j i sh set ov F) := by
  intro j
  induction j with
  | zero =>
    intro i sh set ov F hij hs ho hF
    unfold skF
    split
    · exact hF
    · split
      · exact hF
      · exact noteF_ok hF (lt_256 hs (by omega)) (lt_256 ho (by omega))
  | succ j ih =>
    intro i sh set ov F hij hs ho hF
    unfold skF
    split
    · exact hF
    · split
      · exact hF
      · have k1 := ih (i + 1) sh set ov F (by omega) (up1 hs) (up1 ho) hF
        have k2 : okF (onO (D.1 i) (skF D j (i + 1) sh set ov F) (fun x => skF D j (i + 1) (sh ||| x) (set ||| 2 ^ i) ov (skF D j (i + 1) sh set ov F))) := by
          cases D.1 i with
          | none => exact k1
          | some x => exact ih _ _ _ _ _ (by omega) (bitS_lt hs) (up1 ho) k1
        cases D.2.1 i with
        | none => exact k2
        | some x => exact ih _ _ _ _ _ (by omega) (bitS_lt hs) (bitS_lt ho) k2
theorem t_note (d : Nat) {b : Nat → Nat → Int32} {t : Nat → Int32} {F : FF} (hF : okF F) {set ov : Nat} (hs : set < 256) (ho : ov < 256) : xCt xMs (d + 2) nX3_noteFewest [.ref 0, .int (nI set), .int (nI ov)] (eS b (tF t F)) (xRetV (eS b (tF t (noteF F set ov)))) := by
  obtain ⟨h1, h2, h3⟩ := hF
  have hp := pop_le set
  have e3 : tF t F 3 = nI F.1 := rfl
  have e4 : tF t F 4 = nI F.2.1 := rfl
  have e5 : tF t F 5 = nI F.2.2.1 := rfl
  have e6 : tF t F 6 + 1 = nI (F.2.2.2 + 1) := nI_1 _
  refine xV (M := mX3_noteFewest) rfl rfl rfl rfl rfl pX3_noteFewest rfl (fun G g1 g2 g3 => ?_)
  unfold noteF at g2
  refine xwp_go g1 [] 100 _ _ _ _ ?_
  refine xcallR (G := G) g3 [] (c_bitCount d [] (p := set) (by omega)) ?_
  refine xwp_go g1 [] 100 _ _ _ _ ?_
  refine And.intro (fun h => ?_) (fun h => ?_) <;> rw [e3, nI_leI (by omega) (by omega)] at h
  · rw [if_neg (show ¬ pop set < F.1 by omega)] at g2
    refine And.intro (fun _ => ?_) (fun hh => absurd rfl hh)
    refine And.intro (fun hh => absurd rfl hh) (fun _ => ?_)
    refine And.intro (fun h4 => ?_) (fun h4 => ?_)
    · have h4 : nI set < nI F.2.1 := h4
      rw [nI_ltI (by omega) (by omega)] at h4
      rw [if_pos (Or.inr (Or.inl h4)), if_pos (Or.inr (Or.inl h4))] at g2
      exact xrv (G := G) g2 rfl (by rw [e6]; rfl)
    · have h4 : ¬ nI set < nI F.2.1 := h4
      rw [nI_ltI (by omega) (by omega)] at h4
      refine And.intro (fun h5 => ?_) (fun h5 => ?_)
      · have h5 : ¬ nI set = nI F.2.1 := h5
        rw [nI_eq (by omega) (by omega)] at h5
        rw [if_neg (by omega), if_neg (by omega)] at g2
        exact xrv (G := G) g2 rfl (by rw [e6]; rfl)
      · have h5 : nI set = nI F.2.1 := h5
        rw [nI_eq (by omega) (by omega)] at h5
        refine And.intro (fun h6 => ?_) (fun h6 => ?_)
        · have h6 : nI F.2.2.1 ≤ nI ov := h6
          rw [nI_leI (by omega) (by omega)] at h6
          rw [if_neg (by omega), if_neg (by omega)] at g2
          exact xrv (G := G) g2 rfl (by rw [e6]; rfl)
        · have h6 : ¬ nI F.2.2.1 ≤ nI ov := h6
          rw [nI_leI (by omega) (by omega)] at h6
          rw [if_pos (by omega), if_pos (by omega)] at g2
          exact xrv (G := G) g2 rfl (by rw [e6]; rfl)
  · have h : pop set < F.1 := by omega
    rw [if_pos (Or.inl h), if_pos (Or.inl h), if_pos h] at g2
    refine And.intro (fun hh => absurd hh (by decide)) (fun _ => ?_)
    refine And.intro (fun _ => ?_) (fun hh => absurd hh (by decide))
    exact xrv (G := G) g2 rfl rfl
end
section
/-! the class's Search: the four ways of going through -/
theorem ldS_tF {D : LD} {n : Nat} {b : Nat → Nat → Int32} {t : Nat → Int32} (h : ldS D n b t) (F : FF) : ldS D n b (tF t F) := h
theorem t_seekFewest {D : LD} {n : Nat} {b : Nat → Nat → Int32} {t : Nat → Int32} (hl : ldS D n b t) : ∀ j e i sh set ov F, j + 3 ≤ e → i + j = n → sh < 65536 → set < 2 ^ i → ov < 2 ^ i → okF F → xCt xMs e nX3_seekFewest [.ref 0, .int (nI i), .int (nI sh), .int (nI set), .int (nI ov)] (eS b (tF t F)) (xRetV (eS b (tF t (skF D j i sh set ov F)))) := by
  have h8 := hl.1
  intro j
  induction j with
  | zero =>
    intro e i sh set ov F he hij hsh hs ho hF
    obtain ⟨d, rfl⟩ : ∃ d, e = d + 3 := ⟨e - 3, by omega⟩
    have s8 := lt_256 hs (by omega)
    have o8 := lt_256 ho (by omega)
    have hp := pop_le set
    have e0 : tF t F 0 = nI n := hl.2.2.1
    have e3 : tF t F 3 = nI F.1 := rfl
    have f16 := hF.1
    refine xV (M := mX3_seekFewest) rfl rfl rfl rfl rfl pX3_seekFewest rfl (fun G g1 g2 g3 => ?_)
    unfold skF at g2
    refine xwp_go g1 [] 100 _ _ _ _ ?_
    refine And.intro (fun h => absurd h (nI_pos (by omega))) (fun _ => ?_)
    refine And.intro (fun h => ?_) (fun _ => ?_)
    · rw [e0] at h; exact absurd h (nI_nlt (by omega) (by omega))
    refine xcallR (G := G) g3 pS (t_out (d + 1) (ldS_tF hl F) (i := i) (by omega) hsh) ?_
    cases hO : outB D i sh with
    | true =>
      rw [if_pos hO] at g2
      refine xwp_go g1 [] 100 _ _ _ _ ?_
      exact And.intro (fun h => absurd h (by decide)) (fun _ => xrv (G := G) g2 rfl rfl)
    | false =>
      rw [if_neg (by rw [hO]; decide)] at g2
      refine xwp_go g1 [] 100 _ _ _ _ ?_
      refine And.intro (fun _ => ?_) (fun h => absurd rfl h)
      refine xcallR (G := G) g3 [] (c_bitCount (d + 1) [] (p := set) (by omega)) ?_
      refine xwp_go g1 [] 100 _ _ _ _ ?_
      refine And.intro (fun h => ?_) (fun h => ?_) <;> rw [e3, nI_leI (by omega) (by omega)] at h
      · rw [if_neg (by omega)] at g2
        refine And.intro (fun h => ?_) (fun _ => ?_)
        · rw [e0, nI_eq (by omega) (by omega)] at h; omega
        refine xcallV (G := G) g3 pS (t_note d hF s8 o8) ?_
        rw [xputS]
        refine xwp_go g1 [] 100 _ _ _ _ ?_
        exact xrv (G := G) g2 rfl rfl
      · rw [if_pos (by omega)] at g2
        exact xrv (G := G) g2 rfl rfl
  | succ j ih =>
    intro e i sh set ov F he hij hsh hs ho hF
    obtain ⟨d, rfl⟩ : ∃ d, e = d + 3 := ⟨e - 3, by omega⟩
    have s8 := lt_256 hs (by omega)
    have o8 := lt_256 ho (by omega)
    have hp := pop_le set
    have f16 := hF.1
    obtain ⟨b0, b1, -, x0, x1, -⟩ := hl.2.2.2.2.1 i (by omega)
    have cl : (nI i).toNatClampNeg = i := nI_clamp (by omega)
    have hin : vp_in (nI i) 8 := vp_in_nI (by omega) (by decide)
    have eb : (1 : Int32) <<< (nI i &&& 31) = nI (2 ^ i) := nI_pow (by omega)
    refine xV (M := mX3_seekFewest) rfl rfl rfl rfl rfl pX3_seekFewest rfl (fun G g1 g2 g3 => ?_)
    unfold skF at g2
    have e0 : tF t F 0 = nI n := hl.2.2.1
    have e3 : tF t F 3 = nI F.1 := rfl
    refine xwp_go g1 [] 100 _ _ _ _ ?_
    refine And.intro (fun h => absurd h (nI_pos (by omega))) (fun _ => ?_)
    refine And.intro (fun h => ?_) (fun _ => ?_)
    · rw [e0] at h; exact absurd h (nI_nlt (by omega) (by omega))
    refine xcallR (G := G) g3 pS (t_out (d + 1) (ldS_tF hl F) (i := i) (by omega) hsh) ?_
    cases hO : outB D i sh with
    | true =>
      rw [if_pos hO] at g2
      refine xwp_go g1 [] 100 _ _ _ _ ?_
      exact And.intro (fun h => absurd h (by decide)) (fun _ => xrv (G := G) g2 rfl rfl)
    | false =>
      rw [if_neg (by rw [hO]; decide)] at g2
      refine xwp_go g1 [] 100 _ _ _ _ ?_
      refine And.intro (fun _ => ?_) (fun h => absurd rfl h)
      refine xcallR (G := G) g3 [] (c_bitCount (d + 1) [] (p := set) (by omega)) ?_
      refine xwp_go g1 [] 100 _ _ _ _ ?_
      refine And.intro (fun h => ?_) (fun h => ?_) <;> rw [e3, nI_leI (by omega) (by omega)] at h
      · rw [if_neg (by omega)] at g2
        refine And.intro (fun _ => ?_) (fun h => ?_)
        · have k1 := skF_ok D h8 j (i + 1) sh set ov F (by omega) (up1 hs) (up1 ho) hF
          refine xcallV (G := G) g3 pS (agr4 (nI_1 i) rfl rfl rfl (ih (d + 2) (i + 1) sh set ov F (by omega) (by omega) hsh (up1 hs) (up1 ho) hF)) ?_
          rw [xputS]
          generalize skF D j (i + 1) sh set ov F = F1 at g2 k1
          have second : ∀ F2, okF F2 → xG2 mX3_seekFewest.2.2.2.2.1 mX3_seekFewest.2.2.2.1 (xRetV (eS b (tF t (onO (D.2.1 i) F2 (fun x => skF D j (i + 1) (sh ||| x) (set ||| 2 ^ i) (ov ||| 2 ^ i) F2))))) G → G 97 [some (.ref 0), some (.int (nI i)), some (.int (nI sh)), some (.int (nI set)), some (.int (nI ov)), some (.int ((1 : Int32) <<< (nI i &&& 31)))] [] (eS b (tF t F2)) := by
            intro F2 k2 g2
            refine xwp_go g1 [] 100 _ _ _ _ ?_
            refine And.intro hin ?_
            cases hg : D.2.1 i with
            | none =>
              rw [hg] at g2
              refine And.intro (fun _ => xrv (G := G) g2 rfl rfl) (fun h => absurd (by rw [cl, b1, hg]; rfl) h)
            | some y =>
              rw [hg] at g2
              have y16 := x1 y hg
              have by1 : b 1 (nI i).toNatClampNeg = nI y := by rw [cl, b1, hg]; rfl
              refine And.intro (fun h => ?_) (fun _ => ?_)
              · have hh := (encO_n (o := some y) (fun z hz => by cases hz; exact y16)).mp (by rw [← h, by1]; rfl)
                cases hh
              refine And.intro hin ?_
              refine xcallV (G := G) g3 pS (agr4 (nI_1 i) (show nI sh ||| b 1 (nI i).toNatClampNeg = nI (sh ||| y) by rw [by1, fa_or]) (show nI set ||| (1 : Int32) <<< (nI i &&& 31) = nI (set ||| 2 ^ i) by rw [eb, fa_or]) (show nI ov ||| (1 : Int32) <<< (nI i &&& 31) = nI (ov ||| 2 ^ i) by rw [eb, fa_or]) (ih (d + 2) (i + 1) (sh ||| y) (set ||| 2 ^ i) (ov ||| 2 ^ i) F2 (by omega) (by omega) (Nat.or_lt_two_pow (n := 16) hsh y16) (bitS_lt hs) (bitS_lt ho) k2)) ?_
              rw [xputS]
              refine xwp_go g1 [] 100 _ _ _ _ ?_
              exact xrv (G := G) g2 rfl rfl
          refine xwp_go g1 [97] 100 _ _ _ _ ?_
          refine And.intro hin ?_
          cases hf : D.1 i with
          | none =>
            rw [hf] at g2
            refine And.intro (fun _ => second F1 k1 g2) (fun h => absurd (by rw [cl, b0, hf]; rfl) h)
          | some y =>
            rw [hf] at g2
            have y16 := x0 y hf
            have by1 : b 0 (nI i).toNatClampNeg = nI y := by rw [cl, b0, hf]; rfl
            refine And.intro (fun h => ?_) (fun _ => ?_)
            · have hh := (encO_n (o := some y) (fun z hz => by cases hz; exact y16)).mp (by rw [← h, by1]; rfl)
              cases hh
            refine And.intro hin ?_
            refine xcallV (G := G) g3 pS (agr4 (nI_1 i) (show nI sh ||| b 0 (nI i).toNatClampNeg = nI (sh ||| y) by rw [by1, fa_or]) (show nI set ||| (1 : Int32) <<< (nI i &&& 31) = nI (set ||| 2 ^ i) by rw [eb, fa_or]) rfl (ih (d + 2) (i + 1) (sh ||| y) (set ||| 2 ^ i) ov F1 (by omega) (by omega) (Nat.or_lt_two_pow (n := 16) hsh y16) (bitS_lt hs) (up1 ho) k1)) ?_
            rw [xputS]
            exact second _ (skF_ok D h8 j (i + 1) (sh ||| y) (set ||| 2 ^ i) ov F1 (by omega) (bitS_lt hs) (up1 ho) k1) g2
        · rw [e0, nI_eq (by omega) (by omega)] at h; omega
      · rw [if_pos (by omega)] at g2
        exact xrv (G := G) g2 rfl rfl
/-- cheapest: the least found so far -/
def skC (D : LD) : Nat → Nat → Nat → Nat → Nat → Nat
  | 0, i, sh, co, m => if m ≤ co then m else if outB D i sh = true then m else co
  | j + 1, i, sh, co, m => if m ≤ co then m else if outB D i sh = true then m else
    onO (D.2.1 i) (onO (D.1 i) (skC D j (i + 1) sh co m) (fun x => skC D j (i + 1) (sh ||| x) (co + D.2.2.1 i) (skC D j (i + 1) sh co m)))
      (fun x => skC D j (i + 1) (sh ||| x) (co + D.2.2.1 i) (onO (D.1 i) (skC D j (i + 1) sh co m) (fun x => skC D j (i + 1) (sh ||| x) (co + D.2.2.1 i) (skC D j (i + 1) sh co m))))
theorem skC_le (D : LD) : ∀ j i sh co m, skC D j i sh co m ≤ m := by
  intro j
  induction j with
  | zero =>
    intro i sh co m
    unfold skC
    split
    · exact Nat.le_refl _
    · split <;> omega
  | succ j ih =>
    intro i sh co m
    unfold skC
    split
    · exact Nat.le_refl _
    · split
      · exact Nat.le_refl _
      · have k2 : onO (D.1 i) (skC D j (i + 1) sh co m) (fun x => skC D j (i + 1) (sh ||| x) (co + D.2.2.1 i) (skC D j (i + 1) sh co m)) ≤ m := by
          cases D.1 i with
          | none => exact ih _ _ _ _
          | some x => exact Nat.le_trans (ih _ _ _ _) (ih _ _ _ _)
        cases D.2.1 i with
        | none => exact k2
        | some x => exact Nat.le_trans (ih _ _ _ _) k2
theorem t_seekCheapest {D : LD} {n : Nat} {b : Nat → Nat → Int32} {t : Nat → Int32} (hl : ldS D n b t) : ∀ j e i sh co m, j + 2 ≤ e → i + j = n → sh < 65536 → co ≤ 99 * i → m ≤ 1000 → xCt xMs e nX3_seekCheapest [.ref 0, .int (nI i), .int (nI sh), .int (nI co)] (eS b (sU t 2 (nI m))) (xRetV (eS b (sU t 2 (nI (skC D j i sh co m))))) := by
  have h8 := hl.1
  intro j
  induction j with
  | zero =>
    intro e i sh co m he hij hsh hco hm
    obtain ⟨d, rfl⟩ : ∃ d, e = d + 2 := ⟨e - 2, by omega⟩
    have e0 : sU t 2 (nI m) 0 = nI n := hl.2.2.1
    have e3 : sU t 2 (nI m) 2 = nI m := rfl
    refine xV (M := mX3_seekCheapest) rfl rfl rfl rfl rfl pX3_seekCheapest rfl (fun G g1 g2 g3 => ?_)
    unfold skC at g2
    refine xwp_go g1 [] 100 _ _ _ _ ?_
    refine And.intro (fun h => absurd h (nI_pos (by omega))) (fun _ => ?_)
    refine And.intro (fun h => ?_) (fun _ => ?_)
    · rw [e0] at h; exact absurd h (nI_nlt (by omega) (by omega))
    refine And.intro (fun h => ?_) (fun h => ?_) <;> rw [e3, nI_leI (by omega) (by omega)] at h
    · rw [if_pos h] at g2
      exact xrv (G := G) g2 rfl rfl
    rw [if_neg h] at g2
    refine xcallR (G := G) g3 pS (t_out d (show ldS D n b (sU t 2 (nI m)) from hl) (i := i) (by omega) hsh) ?_
    cases hO : outB D i sh with
    | true =>
      rw [if_pos hO] at g2
      refine xwp_go g1 [] 100 _ _ _ _ ?_
      exact And.intro (fun h => absurd h (by decide)) (fun _ => xrv (G := G) g2 rfl rfl)
    | false =>
      rw [if_neg (by rw [hO]; decide)] at g2
      refine xwp_go g1 [] 100 _ _ _ _ ?_
      refine And.intro (fun _ => ?_) (fun h => absurd rfl h)
      refine And.intro (fun h => ?_) (fun _ => ?_)
      · rw [e0, nI_eq (by omega) (by omega)] at h; omega
      exact xrv (G := G) g2 rfl rfl
  | succ j ih =>
    intro e i sh co m he hij hsh hco hm
    obtain ⟨d, rfl⟩ : ∃ d, e = d + 2 := ⟨e - 2, by omega⟩
    obtain ⟨b0, b1, b2, x0, x1, x2⟩ := hl.2.2.2.2.1 i (by omega)
    have cl : (nI i).toNatClampNeg = i := nI_clamp (by omega)
    have hin : vp_in (nI i) 8 := vp_in_nI (by omega) (by decide)
    have ec : nI co + b 2 (nI i).toNatClampNeg = nI (co + D.2.2.1 i) := by rw [cl, b2, nI_add]
    have e0 : sU t 2 (nI m) 0 = nI n := hl.2.2.1
    have e3 : sU t 2 (nI m) 2 = nI m := rfl
    refine xV (M := mX3_seekCheapest) rfl rfl rfl rfl rfl pX3_seekCheapest rfl (fun G g1 g2 g3 => ?_)
    unfold skC at g2
    refine xwp_go g1 [] 100 _ _ _ _ ?_
    refine And.intro (fun h => absurd h (nI_pos (by omega))) (fun _ => ?_)
    refine And.intro (fun h => ?_) (fun _ => ?_)
    · rw [e0] at h; exact absurd h (nI_nlt (by omega) (by omega))
    refine And.intro (fun h => ?_) (fun h => ?_) <;> rw [e3, nI_leI (by omega) (by omega)] at h
    · rw [if_pos h] at g2
      exact xrv (G := G) g2 rfl rfl
    rw [if_neg h] at g2
    refine xcallR (G := G) g3 pS (t_out d (show ldS D n b (sU t 2 (nI m)) from hl) (i := i) (by omega) hsh) ?_
    cases hO : outB D i sh with
    | true =>
      rw [if_pos hO] at g2
      refine xwp_go g1 [] 100 _ _ _ _ ?_
      exact And.intro (fun h => absurd h (by decide)) (fun _ => xrv (G := G) g2 rfl rfl)
    | false =>
      rw [if_neg (by rw [hO]; decide)] at g2
      refine xwp_go g1 [] 100 _ _ _ _ ?_
      refine And.intro (fun _ => ?_) (fun h => absurd rfl h)
      refine And.intro (fun _ => ?_) (fun h => ?_)
      · have k1 := Nat.le_trans (skC_le D j (i + 1) sh co m) hm
        refine xcallV (G := G) g3 pS (agr3 (nI_1 i) rfl rfl (ih (d + 1) (i + 1) sh co m (by omega) (by omega) hsh (by omega) hm)) ?_
        rw [xputS]
        generalize skC D j (i + 1) sh co m = m1 at g2 k1
        have second : ∀ m2, m2 ≤ 1000 → xG2 mX3_seekCheapest.2.2.2.2.1 mX3_seekCheapest.2.2.2.1 (xRetV (eS b (sU t 2 (nI (onO (D.2.1 i) m2 (fun x => skC D j (i + 1) (sh ||| x) (co + D.2.2.1 i) m2)))))) G → G 86 [some (.ref 0), some (.int (nI i)), some (.int (nI sh)), some (.int (nI co))] [] (eS b (sU t 2 (nI m2))) := by
          intro m2 k2 g2
          refine xwp_go g1 [] 100 _ _ _ _ ?_
          refine And.intro hin ?_
          cases hg : D.2.1 i with
          | none =>
            rw [hg] at g2
            refine And.intro (fun _ => xrv (G := G) g2 rfl rfl) (fun h => absurd (by rw [cl, b1, hg]; rfl) h)
          | some y =>
            rw [hg] at g2
            have y16 := x1 y hg
            have by1 : b 1 (nI i).toNatClampNeg = nI y := by rw [cl, b1, hg]; rfl
            refine And.intro (fun h => ?_) (fun _ => ?_)
            · have hh := (encO_n (o := some y) (fun z hz => by cases hz; exact y16)).mp (by rw [← h, by1]; rfl)
              cases hh
            refine And.intro hin (And.intro hin ?_)
            refine xcallV (G := G) g3 pS (agr3 (nI_1 i) (show nI sh ||| b 1 (nI i).toNatClampNeg = nI (sh ||| y) by rw [by1, fa_or]) ec (ih (d + 1) (i + 1) (sh ||| y) (co + D.2.2.1 i) m2 (by omega) (by omega) (Nat.or_lt_two_pow (n := 16) hsh y16) (by omega) k2)) ?_
            rw [xputS]
            refine xwp_go g1 [] 100 _ _ _ _ ?_
            exact xrv (G := G) g2 rfl rfl
        refine xwp_go g1 [86] 100 _ _ _ _ ?_
        refine And.intro hin ?_
        cases hf : D.1 i with
        | none =>
          rw [hf] at g2
          refine And.intro (fun _ => second m1 k1 g2) (fun h => absurd (by rw [cl, b0, hf]; rfl) h)
        | some y =>
          rw [hf] at g2
          have y16 := x0 y hf
          have by1 : b 0 (nI i).toNatClampNeg = nI y := by rw [cl, b0, hf]; rfl
          refine And.intro (fun h => ?_) (fun _ => ?_)
          · have hh := (encO_n (o := some y) (fun z hz => by cases hz; exact y16)).mp (by rw [← h, by1]; rfl)
            cases hh
          refine And.intro hin (And.intro hin ?_)
          refine xcallV (G := G) g3 pS (agr3 (nI_1 i) (show nI sh ||| b 0 (nI i).toNatClampNeg = nI (sh ||| y) by rw [by1, fa_or]) ec (ih (d + 1) (i + 1) (sh ||| y) (co + D.2.2.1 i) m1 (by omega) (by omega) (Nat.or_lt_two_pow (n := 16) hsh y16) (by omega) k1)) ?_
          rw [xputS]
          exact second _ (Nat.le_trans (skC_le D j (i + 1) (sh ||| y) (co + D.2.2.1 i) m1) k1) g2
      · rw [e0, nI_eq (by omega) (by omega)] at h; omega
end
section
/-! the class's Search: near, isShown, load -/
def atN (D : LD) (i sh : Nat) : Nat := pop ((sh ^^^ (sh &&& D.2.2.2.2)) ||| (D.2.2.2.2 ^^^ (D.2.2.2.2 &&& (sh ||| D.2.2.2.1 i))))
def skN (D : LD) : Nat → Nat → Nat → Nat → Nat
  | 0, i, sh, m => if m ≤ atN D i sh then m else atN D i sh
  | j + 1, i, sh, m => if m ≤ atN D i sh then m else skN D j (i + 1) (sh ||| dk (D.2.1 i)) (skN D j (i + 1) (sh ||| dk (D.1 i)) (skN D j (i + 1) sh m))
theorem skN_le (D : LD) : ∀ j i sh m, skN D j i sh m ≤ m := by
  intro j
  induction j with
  | zero =>
    intro i sh m
    unfold skN
    split <;> omega
  | succ j ih =>
    intro i sh m
    unfold skN
    split
    · exact Nat.le_refl _
    · exact Nat.le_trans (ih _ _ _) (Nat.le_trans (ih _ _ _) (ih _ _ _))
theorem dk_lt {o : Option Nat} (h : ∀ x, o = some x → x < 65536) : dk o < 65536 := by
  cases o with
  | none => exact (by decide : 0 < 65536)
  | some x => exact h x rfl
theorem t_seekNear {D : LD} {n : Nat} {b : Nat → Nat → Int32} {t : Nat → Int32} (hl : ldS D n b t) : ∀ j e i sh m, j + 2 ≤ e → i + j = n → sh < 65536 → m ≤ 17 → xCt xMs e nX3_seekNear [.ref 0, .int (nI i), .int (nI sh)] (eS b (sU t 2 (nI m))) (xRetV (eS b (sU t 2 (nI (skN D j i sh m))))) := by
  have h8 := hl.1
  intro j
  induction j with
  | zero =>
    intro e i sh m he hij hsh hm
    obtain ⟨d, rfl⟩ : ∃ d, e = d + 2 := ⟨e - 2, by omega⟩
    have e0 : sU t 2 (nI m) 0 = nI n := hl.2.2.1
    have e1 : sU t 2 (nI m) 1 = nI D.2.2.2.2 := hl.2.2.2.1
    have e3 : sU t 2 (nI m) 2 = nI m := rfl
    obtain ⟨r1, r2⟩ := hl.2.2.2.2.2 i (by omega)
    have hlt : (sh ^^^ (sh &&& D.2.2.2.2)) ||| (D.2.2.2.2 ^^^ (D.2.2.2.2 &&& (sh ||| D.2.2.2.1 i))) < 65536 := Nat.or_lt_two_pow (n := 16) (Nat.xor_lt_two_pow (n := 16) hsh (Nat.lt_of_le_of_lt Nat.and_le_left hsh)) (Nat.xor_lt_two_pow (n := 16) hl.2.1 (Nat.lt_of_le_of_lt Nat.and_le_left hl.2.1))
    have ea : (nI sh &&& (sU t 2 (nI m) 1 ^^^ (-1))) ||| (sU t 2 (nI m) 1 &&& ((nI sh ||| b 3 (nI i).toNatClampNeg) ^^^ (-1))) = nI ((sh ^^^ (sh &&& D.2.2.2.2)) ||| (D.2.2.2.2 ^^^ (D.2.2.2.2 &&& (sh ||| D.2.2.2.1 i)))) := by
      rw [e1, nI_clamp (by omega), r1, fa_or, nI_andn, nI_andn, fa_or]
    have hpl := pop_le ((sh ^^^ (sh &&& D.2.2.2.2)) ||| (D.2.2.2.2 ^^^ (D.2.2.2.2 &&& (sh ||| D.2.2.2.1 i))))
    refine xV (M := mX3_seekNear) rfl rfl rfl rfl rfl pX3_seekNear rfl (fun G g1 g2 g3 => ?_)
    unfold skN atN at g2
    refine xwp_go g1 [] 100 _ _ _ _ ?_
    refine And.intro (fun h => absurd h (nI_pos (by omega))) (fun _ => ?_)
    refine And.intro (fun _ => ?_) (fun h => ?_)
    · refine And.intro (vp_in_nI (by omega) (by decide)) ?_
      refine xcallR (G := G) g3 [] (ag1 ea (c_bitCount d [] hlt)) ?_
      generalize pop ((sh ^^^ (sh &&& D.2.2.2.2)) ||| (D.2.2.2.2 ^^^ (D.2.2.2.2 &&& (sh ||| D.2.2.2.1 i)))) = at' at g2 hpl
      refine xwp_go g1 [] 100 _ _ _ _ ?_
      refine And.intro (fun h => ?_) (fun h => ?_) <;> rw [e3, nI_ltI (by omega) (by omega)] at h
      · rw [if_neg (by omega)] at g2
        refine And.intro (fun h => ?_) (fun _ => ?_)
        · rw [e0, nI_eq (by omega) (by omega)] at h; omega
        exact xrv (G := G) g2 rfl rfl
      · rw [if_pos (by omega)] at g2
        exact xrv (G := G) g2 rfl rfl
    · rw [e0] at h; exact absurd (nI_le (by omega) (by omega)) h
  | succ j ih =>
    intro e i sh m he hij hsh hm
    obtain ⟨d, rfl⟩ : ∃ d, e = d + 2 := ⟨e - 2, by omega⟩
    have e0 : sU t 2 (nI m) 0 = nI n := hl.2.2.1
    have e1 : sU t 2 (nI m) 1 = nI D.2.2.2.2 := hl.2.2.2.1
    have e3 : sU t 2 (nI m) 2 = nI m := rfl
    obtain ⟨r1, r2⟩ := hl.2.2.2.2.2 i (by omega)
    obtain ⟨b0, b1, -, x0, x1, -⟩ := hl.2.2.2.2.1 i (by omega)
    have cl : (nI i).toNatClampNeg = i := nI_clamp (by omega)
    have hin : vp_in (nI i) 8 := vp_in_nI (by omega) (by decide)
    have hlt : (sh ^^^ (sh &&& D.2.2.2.2)) ||| (D.2.2.2.2 ^^^ (D.2.2.2.2 &&& (sh ||| D.2.2.2.1 i))) < 65536 := Nat.or_lt_two_pow (n := 16) (Nat.xor_lt_two_pow (n := 16) hsh (Nat.lt_of_le_of_lt Nat.and_le_left hsh)) (Nat.xor_lt_two_pow (n := 16) hl.2.1 (Nat.lt_of_le_of_lt Nat.and_le_left hl.2.1))
    have ea : (nI sh &&& (sU t 2 (nI m) 1 ^^^ (-1))) ||| (sU t 2 (nI m) 1 &&& ((nI sh ||| b 3 (nI i).toNatClampNeg) ^^^ (-1))) = nI ((sh ^^^ (sh &&& D.2.2.2.2)) ||| (D.2.2.2.2 ^^^ (D.2.2.2.2 &&& (sh ||| D.2.2.2.1 i)))) := by
      rw [e1, nI_clamp (by omega), r1, fa_or, nI_andn, nI_andn, fa_or]
    have hpl := pop_le ((sh ^^^ (sh &&& D.2.2.2.2)) ||| (D.2.2.2.2 ^^^ (D.2.2.2.2 &&& (sh ||| D.2.2.2.1 i))))
    refine xV (M := mX3_seekNear) rfl rfl rfl rfl rfl pX3_seekNear rfl (fun G g1 g2 g3 => ?_)
    unfold skN atN at g2
    refine xwp_go g1 [] 100 _ _ _ _ ?_
    refine And.intro (fun h => absurd h (nI_pos (by omega))) (fun _ => ?_)
    refine And.intro (fun _ => ?_) (fun h => ?_)
    · refine And.intro (vp_in_nI (by omega) (by decide)) ?_
      refine xcallR (G := G) g3 [] (ag1 ea (c_bitCount d [] hlt)) ?_
      generalize pop ((sh ^^^ (sh &&& D.2.2.2.2)) ||| (D.2.2.2.2 ^^^ (D.2.2.2.2 &&& (sh ||| D.2.2.2.1 i)))) = at' at g2 hpl
      refine xwp_go g1 [] 100 _ _ _ _ ?_
      refine And.intro (fun h => ?_) (fun h => ?_) <;> rw [e3, nI_ltI (by omega) (by omega)] at h
      · rw [if_neg (by omega)] at g2
        refine And.intro (fun _ => ?_) (fun h => ?_)
        · have k1 := Nat.le_trans (skN_le D j (i + 1) sh m) hm
          refine xcallV (G := G) g3 pS (agr2 (nI_1 i) rfl (ih (d + 1) (i + 1) sh m (by omega) (by omega) hsh hm)) ?_
          rw [xputS]
          generalize skN D j (i + 1) sh m = m1 at g2 k1
          refine xwp_go g1 [] 100 _ _ _ _ ?_
          refine And.intro hin ?_
          refine xcallR (G := G) g3 [] (t_dark d [] (v := b 0 (nI i).toNatClampNeg) x0 (by rw [cl]; exact b0)) ?_
          refine xwp_go g1 [] 100 _ _ _ _ ?_
          have k2 := Nat.le_trans (skN_le D j (i + 1) (sh ||| dk (D.1 i)) m1) k1
          refine xcallV (G := G) g3 pS (agr2 (nI_1 i) (fa_or _ _) (ih (d + 1) (i + 1) (sh ||| dk (D.1 i)) m1 (by omega) (by omega) (Nat.or_lt_two_pow (n := 16) hsh (dk_lt x0)) k1)) ?_
          rw [xputS]
          generalize skN D j (i + 1) (sh ||| dk (D.1 i)) m1 = m2 at g2 k2
          refine xwp_go g1 [] 100 _ _ _ _ ?_
          refine And.intro hin ?_
          refine xcallR (G := G) g3 [] (t_dark d [] (v := b 1 (nI i).toNatClampNeg) x1 (by rw [cl]; exact b1)) ?_
          refine xwp_go g1 [] 100 _ _ _ _ ?_
          refine xcallV (G := G) g3 pS (agr2 (nI_1 i) (fa_or _ _) (ih (d + 1) (i + 1) (sh ||| dk (D.2.1 i)) m2 (by omega) (by omega) (Nat.or_lt_two_pow (n := 16) hsh (dk_lt x1)) k2)) ?_
          rw [xputS]
          refine xwp_go g1 [] 100 _ _ _ _ ?_
          exact xrv (G := G) g2 rfl rfl
        · rw [e0, nI_eq (by omega) (by omega)] at h; omega
      · rw [if_pos (by omega)] at g2
        exact xrv (G := G) g2 rfl rfl
    · rw [e0] at h; exact absurd (nI_le (by omega) (by omega)) h
def shB (D : LD) : Nat → Nat → Nat → Bool
  | 0, i, sh => !outB D i sh
  | j + 1, i, sh => if outB D i sh = true then false else if D.1 i = none ∧ D.2.1 i = none then shB D j (i + 1) sh else
    onO (D.1 i) false (fun x => shB D j (i + 1) (sh ||| x)) || onO (D.2.1 i) false (fun x => shB D j (i + 1) (sh ||| x))
theorem t_isShown {D : LD} {n : Nat} {b : Nat → Nat → Int32} {t : Nat → Int32} (hl : ldS D n b t) : ∀ j e i sh, j + 2 ≤ e → i + j = n → sh < 65536 → xCt xMs e nX3_isShown [.ref 0, .int (nI i), .int (nI sh)] (eS b t) (xRet (bI (shB D j i sh)) (eS b t)) := by
  have h8 := hl.1
  have e0 : t 0 = nI n := hl.2.2.1
  intro j
  induction j with
  | zero =>
    intro e i sh he hij hsh
    obtain ⟨d, rfl⟩ : ∃ d, e = d + 2 := ⟨e - 2, by omega⟩
    refine xV (M := mX3_isShown) rfl rfl rfl rfl rfl pX3_isShown rfl (fun G g1 g2 g3 => ?_)
    unfold shB at g2
    refine xwp_go g1 [] 100 _ _ _ _ ?_
    refine And.intro (fun h => absurd h (nI_pos (by omega))) (fun _ => ?_)
    refine And.intro (fun h => ?_) (fun _ => ?_)
    · rw [e0] at h; exact absurd h (nI_nlt (by omega) (by omega))
    refine xcallR (G := G) g3 pS (t_out d hl (i := i) (by omega) hsh) ?_
    refine xwp_go g1 [] 100 _ _ _ _ ?_
    refine And.intro (fun h => ?_) (fun h => ?_) <;> rw [bI_0] at h
    · rw [h] at g2
      refine And.intro (fun h => ?_) (fun _ => ?_)
      · rw [e0, nI_eq (by omega) (by omega)] at h; omega
      exact xrz (G := G) g2 rfl (Or.inr rfl) rfl rfl
    · rw [Bool.not_eq_false] at h
      rw [h] at g2
      exact xrz (G := G) g2 rfl (Or.inl rfl) rfl rfl
  | succ j ih =>
    intro e i sh he hij hsh
    obtain ⟨d, rfl⟩ : ∃ d, e = d + 2 := ⟨e - 2, by omega⟩
    obtain ⟨b0, b1, -, x0, x1, -⟩ := hl.2.2.2.2.1 i (by omega)
    have cl : (nI i).toNatClampNeg = i := nI_clamp (by omega)
    have hin : vp_in (nI i) 8 := vp_in_nI (by omega) (by decide)
    have q0 : b 0 (nI i).toNatClampNeg = -1 ↔ D.1 i = none := by rw [cl, b0]; exact encO_n x0
    have q1 : b 1 (nI i).toNatClampNeg = -1 ↔ D.2.1 i = none := by rw [cl, b1]; exact encO_n x1
    refine xV (M := mX3_isShown) rfl rfl rfl rfl rfl pX3_isShown rfl (fun G g1 g2 g3 => ?_)
    unfold shB at g2
    have third : xG2 mX3_isShown.2.2.2.2.1 mX3_isShown.2.2.2.1 (xRet (bI (onO (D.2.1 i) false (fun x => shB D j (i + 1) (sh ||| x)))) (eS b t)) G → G 92 [some (.ref 0), some (.int (nI i)), some (.int (nI sh))] [] (eS b t) := by
      intro g2
      refine xwp_go g1 [] 100 _ _ _ _ ?_
      refine And.intro hin ?_
      cases hg : D.2.1 i with
      | none =>
        rw [hg] at g2
        exact And.intro (fun _ => xrz (G := G) g2 rfl (Or.inl rfl) rfl rfl) (fun h => absurd (q1.mpr hg) h)
      | some y =>
        rw [hg] at g2
        refine And.intro (fun h => by rw [q1, hg] at h; cases h) (fun _ => ?_)
        refine And.intro hin ?_
        refine xcallR (G := G) g3 pS (agr2 (nI_1 i) (show nI sh ||| b 1 (nI i).toNatClampNeg = nI (sh ||| y) by rw [cl, b1, hg]; exact fa_or _ _) (ih (d + 1) (i + 1) (sh ||| y) (by omega) (by omega) (Nat.or_lt_two_pow (n := 16) hsh (x1 y hg)))) ?_
        refine xwp_go g1 [] 100 _ _ _ _ ?_
        refine And.intro (fun h => ?_) (fun h => ?_) <;> rw [bI_0] at h
        · exact xrz (G := G) g2 rfl (Or.inl rfl) (by show (0 : Int32) = bI (shB D j (i + 1) (sh ||| y)); rw [h]; rfl) rfl
        · rw [Bool.not_eq_false] at h
          exact xrz (G := G) g2 rfl (Or.inr rfl) (by show (1 : Int32) = bI (shB D j (i + 1) (sh ||| y)); rw [h]; rfl) rfl
    refine xwp_go g1 [] 100 _ _ _ _ ?_
    refine And.intro (fun h => absurd h (nI_pos (by omega))) (fun _ => ?_)
    refine And.intro (fun h => ?_) (fun _ => ?_)
    · rw [e0] at h; exact absurd h (nI_nlt (by omega) (by omega))
    refine xcallR (G := G) g3 pS (t_out d hl (i := i) (by omega) hsh) ?_
    have second : (¬ (D.1 i = none ∧ D.2.1 i = none)) → outB D i sh = false → G 62 [some (.ref 0), some (.int (nI i)), some (.int (nI sh))] [] (eS b t) := by
      intro hne hO
      rw [if_neg (by rw [hO]; decide), if_neg hne] at g2
      refine xwp_go g1 [92] 100 _ _ _ _ ?_
      refine And.intro hin ?_
      cases hf : D.1 i with
      | none =>
        rw [hf] at g2
        exact And.intro (fun _ => third g2) (fun h => absurd (q0.mpr hf) h)
      | some y =>
        rw [hf] at g2
        refine And.intro (fun h => by rw [q0, hf] at h; cases h) (fun _ => ?_)
        refine And.intro hin ?_
        refine xcallR (G := G) g3 pS (agr2 (nI_1 i) (show nI sh ||| b 0 (nI i).toNatClampNeg = nI (sh ||| y) by rw [cl, b0, hf]; exact fa_or _ _) (ih (d + 1) (i + 1) (sh ||| y) (by omega) (by omega) (Nat.or_lt_two_pow (n := 16) hsh (x0 y hf)))) ?_
        refine xwp_go g1 [92] 100 _ _ _ _ ?_
        refine And.intro (fun h => ?_) (fun h => ?_) <;> rw [bI_0] at h
        · refine third ?_
          have g2' : xG2 mX3_isShown.2.2.2.2.1 mX3_isShown.2.2.2.1 (xRet (bI (shB D j (i + 1) (sh ||| y) || onO (D.2.1 i) false (fun x => shB D j (i + 1) (sh ||| x)))) (eS b t)) G := g2
          rw [h, Bool.false_or] at g2'
          exact g2'
        · rw [Bool.not_eq_false] at h
          exact xrz (G := G) g2 rfl (Or.inr rfl) (by show (1 : Int32) = bI (shB D j (i + 1) (sh ||| y) || _); rw [h, Bool.true_or]; rfl) rfl
    refine xwp_go g1 [62] 100 _ _ _ _ ?_
    refine And.intro (fun h => ?_) (fun h => ?_) <;> rw [bI_0] at h
    · refine And.intro (fun _ => ?_) (fun h => ?_)
      · refine And.intro hin ?_
        refine And.intro (fun h1 => ?_) (fun h1 => ?_) <;> rw [q0] at h1
        · exact second (fun z => h1 z.1) h
        refine And.intro hin ?_
        refine And.intro (fun h2 => ?_) (fun h2 => ?_) <;> rw [q1] at h2
        · exact second (fun z => h2 z.2) h
        rw [if_neg (by rw [h]; decide), if_pos ⟨h1, h2⟩] at g2
        refine xcallR (G := G) g3 pS (agr2 (nI_1 i) rfl (ih (d + 1) (i + 1) sh (by omega) (by omega) hsh)) ?_
        refine xwp_go g1 [62] 100 _ _ _ _ ?_
        exact xrz (G := G) g2 rfl (bI_01 _) rfl rfl
      · rw [e0, nI_eq (by omega) (by omega)] at h; omega
    · rw [Bool.not_eq_false] at h
      rw [if_pos h] at g2
      exact xrz (G := G) g2 rfl (Or.inl rfl) rfl rfl
end
section
/-! the class's Search: load, and what it finds -/
def strO (q : LQ) (x : Option Nat) (al i : Nat) : Option Nat := if x = some i then none else layO (onQ q i) al
def turO (q : LQ) (x : Option Nat) (al i : Nat) : Option Nat := if x = some i then none else layO (mirN (onQ q i)) al
/-- what the last k of n slides can make dark -/
def rchL (f g : Nat → Option Nat) (n : Nat) : Nat → Nat
  | 0 => 0
  | k + 1 => rchL f g n k ||| dk (f (n - (k + 1))) ||| dk (g (n - (k + 1)))
def ldD (q : LQ) (x : Option Nat) (p al : Nat) : LD := (strO q x al, turO q x al, q 3, fun i => rchL (strO q x al) (turO q x al) (q 6 0) (q 6 0 - i), p)
theorem strO_lt {q : LQ} (h : okS q) {x : Option Nat} {al i : Nat} (hi : i < q 6 0) : ∀ y, strO q x al i = some y → y < 65536 := by
  intro y hy
  unfold strO at hy
  split at hy
  · cases hy
  · exact layO_lt (onQ_lt h hi) y hy
theorem turO_lt {q : LQ} {x : Option Nat} {al i : Nat} : ∀ y, turO q x al i = some y → y < 65536 := by
  intro y hy
  unfold turO at hy
  split at hy
  · cases hy
  · exact layO_lt (mirN_lt _) y hy
theorem rchL_lt {q : LQ} (h : okS q) {x : Option Nat} {al : Nat} : ∀ k, k ≤ q 6 0 → rchL (strO q x al) (turO q x al) (q 6 0) k < 65536
  | 0, _ => (show 0 < 65536 by decide)
  | k + 1, hk => Nat.or_lt_two_pow (n := 16) (Nat.or_lt_two_pow (n := 16) (rchL_lt h k (by omega)) (dk_lt (strO_lt h (by omega)))) (dk_lt turO_lt)
def eSL (b : Nat → Nat → Int32) (t : Nat → Int32) (a : Nat → Nat → Int32) (s : Nat → Int32) : xH := [.inr (2, [.ref 1, .ref 2, .ref 3, .ref 4, .int (t 0), .int (t 1), .int (t 2), .int (t 3), .int (t 4), .int (t 5), .int (t 6)]), .inl (8, b 0), .inl (8, b 1), .inl (8, b 2), .inl (9, b 3),
  .inr (0, [.ref 6, .ref 7, .ref 8, .ref 9, .ref 10, .ref 11, .int (s 0), .int (s 1), .int (s 2)]), .inl (8, a 0), .inl (8, a 1), .inl (8, a 2), .inl (8, a 3), .inl (8, a 4), .inl (6, a 5)]
abbrev pSL : List Nat := [0, 1, 2, 3, 4, 5, 6, 7, 8, 9, 10, 11]
abbrev pSl : List Nat := [5, 6, 7, 8, 9, 10, 11]
theorem xsubSL (b : Nat → Nat → Int32) (t : Nat → Int32) (a : Nat → Nat → Int32) (s : Nat → Int32) : xsub pS (eS b t) (eSL b t a s) := rfl
theorem xputSLS (b b' : Nat → Nat → Int32) (t t' : Nat → Int32) (a : Nat → Nat → Int32) (s : Nat → Int32) : xput pS pS (eS b' t') (eSL b t a s) = eSL b' t' a s := rfl
theorem xputSL (b b' : Nat → Nat → Int32) (t t' : Nat → Int32) (a a' : Nat → Nat → Int32) (s s' : Nat → Int32) : xput pSL pSL (eSL b' t' a' s') (eSL b t a s) = eSL b' t' a' s' := rfl
/-- which slide is left out -/
def wOut (q : LQ) (w : Int32) (x : Option Nat) : Prop := (w = -1 ∧ x = none) ∨ ∃ i, i < q 6 0 ∧ w = nI i ∧ x = some i
theorem wOut_eq {q : LQ} (h8 : q 6 0 ≤ 8) {w : Int32} {x : Option Nat} (h : wOut q w x) {m : Nat} (hm : m < 8) : nI m = w ↔ x = some m := by
  rcases h with ⟨rfl, rfl⟩ | ⟨i, hi, rfl, rfl⟩
  · constructor
    · intro e
      have := nI_pos (n := m) (by omega)
      rw [e] at this
      exact absurd (by decide) this
    · intro e; cases e
  · rw [nI_eq (by omega) (by omega)]
    constructor
    · intro e; rw [e]
    · intro e; cases e; rfl
theorem t_load (d : Nat) {q : LQ} {a : Nat → Nat → Int32} {s : Nat → Int32} (hr : relS q a s) (b : Nat → Nat → Int32) (t : Nat → Int32) {w : Int32} {x : Option Nat} (hw : wOut q w x) {p al : Nat} (hp : p < 65536) (hal : al < 65536) : xCt xMs (d + 3) nX3_load [.ref 0, .ref 5, .int w, .int (nI p), .int (nI al)] (eSL b t a s) (fun v z => v = none ∧ ∃ b' t', ldS (ldD q x p al) (q 6 0) b' t' ∧ z = eSL b' t' a s) := by
  have h8 := hr.1.1
  have h0 := hr.2.2.2.1
  have e0 : (if (8 : Int32) < s 0 then 8 else s 0) = nI (q 6 0) := by
    rw [h0, if_neg (show ¬ (8 : Int32) < nI (q 6 0) from nI_nlt (a := 8) h8 (by decide))]
  refine xV (M := mX3_load) rfl rfl rfl rfl rfl pX3_load rfl (fun G g1 g2 g3 => ?_)
  refine xwp_go g1 [18] 100 _ _ _ _ ?_
  show G 18 [some (.ref 0), some (.ref 5), some (.int w), some (.int (nI p)), some (.int (nI al)), none, none] [] (eSL b (sU (sU t 1 (nI p)) 0 (if (8 : Int32) < s 0 then 8 else s 0)) a s)
  rw [e0]
  generalize ht : sU (sU t 1 (nI p)) 0 (nI (q 6 0)) = t1
  have t0 : t1 0 = nI (q 6 0) := by rw [← ht]; rfl
  have t1' : t1 1 = nI p := by rw [← ht]; rfl
  refine xwp_go g1 [36] 100 _ _ _ _ ?_
  refine And.intro (by rw [t0]; exact vp_in_nI (by omega) (by decide)) ?_
  refine up (k := q 6 0) (P := fun j => ∀ u b1 z6, u = nI (q 6 0 - j) - 1 → (∀ i, q 6 0 - j ≤ i → i < q 6 0 → b1 0 i = encO (strO q x al i) ∧ b1 1 i = encO (turO q x al i) ∧ b1 2 i = nI (q 3 i)) → (∀ i, q 6 0 - j ≤ i → i ≤ q 6 0 → b1 3 i = nI (rchL (strO q x al) (turO q x al) (q 6 0) (q 6 0 - i))) → G 36 [some (.ref 0), some (.ref 5), some (.int w), some (.int (nI p)), some (.int (nI al)), some (.int u), z6] [] (eSL b1 t1 a s)) ?_ ?_ 0 (Nat.zero_le _) _ (aU b 3 (upd (b 3) (t1 0).toNatClampNeg 0)) _ (by rw [t0]; rfl) (fun i h1 h2 => by omega) (fun i h1 h2 => ?_)
  · intro u b1 z6 hu hb hR
    subst hu
    refine xwp_go g1 [36] 100 _ _ _ _ ?_
    refine And.intro (fun _ => ?_) (fun h => absurd (by rw [Nat.sub_self]; decide) h)
    refine xrv' (G := G) g2 rfl ⟨rfl, b1, t1, ⟨h8, hp, t0, t1', fun i hi => ?_, fun i hi => ?_⟩, rfl⟩
    · obtain ⟨c0, c1, c2⟩ := hb i (by omega) hi
      exact ⟨c0, c1, c2, strO_lt hr.1 hi, turO_lt, (hr.1.2.2.2.2.1 i hi).2.2.2.1⟩
    · exact ⟨hR i (by omega) hi, rchL_lt hr.1 _ (by omega)⟩
  · intro j hj ih u b1 z6 hu hb hR
    obtain ⟨m, hm⟩ : ∃ m, q 6 0 - j = m + 1 := ⟨q 6 0 - j - 1, by omega⟩
    have hmn : m < q 6 0 := by omega
    have eu : u = nI m := by rw [hu, hm]; exact pk_sub (a := m + 1) (b := 1) (by omega)
    subst eu
    have hon := onQ_lt hr.1 hmn
    have hin : vp_in (nI m) 8 := vp_in_nI (by omega) (by decide)
    have cl : (nI m).toNatClampNeg = m := nI_clamp (by omega)
    have em := wOut_eq h8 hw (m := m) (by omega)
    refine xwp_go g1 [36] 100 _ _ _ _ ?_
    refine And.intro (fun h => absurd h (nI_pos (by omega))) (fun _ => ?_)
    refine xcallR (G := G) g3 pSl (c_onSlide d hr hmn) ?_
    have fin : ∀ v0 v1, v0 = encO (strO q x al m) → v1 = encO (turO q x al m) → G 99 [some (.ref 0), some (.ref 5), some (.int w), some (.int (nI p)), some (.int (nI al)), some (.int (nI m)), some (.int (nI (onQ q m)))] [.int v1, .int (nI m), .ref 2] (eSL (aU b1 0 (upd (b1 0) (nI m).toNatClampNeg v0)) t1 a s) := by
      intro v0 v1 hv0 hv1
      refine xwp_go g1 [36] 100 _ _ _ _ ?_
      refine And.intro hin (And.intro hin (And.intro hin (And.intro ?_ (And.intro hin ?_))))
      · rw [nI_1]; exact vp_in_nI (by omega) (by decide)
      refine xcallR (G := G) g3 [] (t_dark (d + 1) [] (v := upd (b1 0) (nI m).toNatClampNeg v0 (nI m).toNatClampNeg) (o := strO q x al m) (strO_lt hr.1 hmn) (by rw [upd_at, if_pos rfl]; exact hv0)) ?_
      refine xwp_go g1 [36] 100 _ _ _ _ ?_
      refine And.intro hin ?_
      refine xcallR (G := G) g3 [] (t_dark (d + 1) [] (v := upd (b1 1) (nI m).toNatClampNeg v1 (nI m).toNatClampNeg) (o := turO q x al m) turO_lt (by rw [upd_at, if_pos rfl]; exact hv1)) ?_
      refine xwp_go g1 [36] 100 _ _ _ _ ?_
      refine And.intro (vp_in_nI (by omega) (by decide)) ?_
      refine ih _ (aU (aU (aU (aU b1 0 (upd (b1 0) (nI m).toNatClampNeg v0)) 1 (upd (b1 1) (nI m).toNatClampNeg v1)) 2 (upd (b1 2) (nI m).toNatClampNeg (a 3 (nI m).toNatClampNeg))) 3 (upd (b1 3) (nI m).toNatClampNeg (b1 3 (nI m + 1).toNatClampNeg ||| nI (dk (strO q x al m)) ||| nI (dk (turO q x al m))))) _ ?_ (fun i h1 h2 => ?_) (fun i h1 h2 => ?_)
      · rw [show q 6 0 - (j + 1) = m by omega, Int32.sub_eq_add_neg]
      · show upd (b1 0) (nI m).toNatClampNeg v0 i = _ ∧ upd (b1 1) (nI m).toNatClampNeg v1 i = _ ∧ upd (b1 2) (nI m).toNatClampNeg (a 3 (nI m).toNatClampNeg) i = _
        rw [cl, upd_at, upd_at, upd_at]
        by_cases e : i = m
        · rw [if_pos e, if_pos e, if_pos e, e]
          exact ⟨hv0, hv1, (hr.2.1 m hmn).2.2.2.1⟩
        · rw [if_neg e, if_neg e, if_neg e]
          exact hb i (by omega) h2
      · show upd (b1 3) (nI m).toNatClampNeg _ i = _
        rw [cl, upd_at]
        by_cases e : i = m
        · rw [if_pos e, nI_1, nI_clamp (by omega), hR (m + 1) (by omega) (by omega), fa_or, fa_or, e, show q 6 0 - m = (q 6 0 - (m + 1)) + 1 by omega]
          show _ = nI (rchL _ _ _ (q 6 0 - (m + 1)) ||| dk (strO q x al (q 6 0 - (q 6 0 - (m + 1) + 1))) ||| dk (turO q x al (q 6 0 - (q 6 0 - (m + 1) + 1))))
          rw [show q 6 0 - (q 6 0 - (m + 1) + 1) = m by omega]
        · rw [if_neg e]
          exact hR i (by omega) h2
    have mid : ∀ v0, v0 = encO (strO q x al m) → G 72 [some (.ref 0), some (.ref 5), some (.int w), some (.int (nI p)), some (.int (nI al)), some (.int (nI m)), some (.int (nI (onQ q m)))] [.int v0, .int (nI m), .ref 1] (eSL b1 t1 a s) := by
      intro v0 hv0
      refine xwp_go g1 [99] 100 _ _ _ _ ?_
      refine And.intro hin ?_
      refine And.intro (fun h => ?_) (fun h => ?_) <;> rw [em] at h
      · refine xcallR (G := G) g3 [] (c_mirrored (d + 1) [] hon) ?_
        refine xwp_go g1 [99] 100 _ _ _ _ ?_
        refine xcallR (G := G) g3 [] (t_usable (d + 1) [] (mirN_lt (onQ q m)) hal) ?_
        exact fin v0 _ hv0 (by unfold turO; rw [if_neg h])
      · exact fin v0 _ hv0 (by unfold turO; rw [if_pos h]; rfl)
    refine xwp_go g1 [72] 100 _ _ _ _ ?_
    refine And.intro (fun h => ?_) (fun h => ?_) <;> rw [em] at h
    · refine xcallR (G := G) g3 [] (t_usable (d + 1) [] hon hal) ?_
      exact mid _ (by unfold strO; rw [if_neg h])
    · exact mid _ (by unfold strO; rw [if_pos h]; rfl)
  · show upd (b 3) (t1 0).toNatClampNeg 0 i = _
    rw [t0, nI_clamp (by omega), upd_at, if_pos (by omega), show q 6 0 - i = 0 by omega]
    rfl
end
section
/-! the class's Search: what it finds; fewest, cheapest, near, can, worth -/
theorem noteF_w (F : FF) (set ov : Nat) : (noteF F set ov).2.2.2 ≤ F.2.2.2 + 1 := by
  show (if pop set < F.1 then 1 else F.2.2.2 + 1) ≤ F.2.2.2 + 1
  split <;> omega
theorem skF_w (D : LD) : ∀ j i sh set ov F, (skF D j i sh set ov F).2.2.2 ≤ F.2.2.2 + 3 ^ j := by
  intro j
  induction j with
  | zero =>
    intro i sh set ov F
    have := noteF_w F set ov
    unfold skF
    split
    · omega
    · split <;> omega
  | succ j ih =>
    intro i sh set ov F
    have h3 : 3 ^ (j + 1) = 3 * 3 ^ j := by rw [Nat.pow_succ, Nat.mul_comm]
    have k1 := ih (i + 1) sh set ov F
    unfold skF
    split
    · omega
    · split
      · omega
      · have k2 : (onO (D.1 i) (skF D j (i + 1) sh set ov F) (fun x => skF D j (i + 1) (sh ||| x) (set ||| 2 ^ i) ov (skF D j (i + 1) sh set ov F))).2.2.2 ≤ F.2.2.2 + 2 * 3 ^ j := by
          cases D.1 i with
          | none => show (skF D j (i + 1) sh set ov F).2.2.2 ≤ _; omega
          | some x =>
            have := ih (i + 1) (sh ||| x) (set ||| 2 ^ i) ov (skF D j (i + 1) sh set ov F)
            show (skF D j (i + 1) (sh ||| x) (set ||| 2 ^ i) ov (skF D j (i + 1) sh set ov F)).2.2.2 ≤ _
            omega
        generalize onO (D.1 i) (skF D j (i + 1) sh set ov F) (fun x => skF D j (i + 1) (sh ||| x) (set ||| 2 ^ i) ov (skF D j (i + 1) sh set ov F)) = F2 at k2
        cases D.2.1 i with
        | none => show F2.2.2.2 ≤ _; omega
        | some x =>
          have := ih (i + 1) (sh ||| x) (set ||| 2 ^ i) (ov ||| 2 ^ i) F2
          show (skF D j (i + 1) (sh ||| x) (set ||| 2 ^ i) (ov ||| 2 ^ i) F2).2.2.2 ≤ _
          omega
def fewF (q : LQ) (p : Nat) : FF := skF (ldD q none p p) (q 6 0) 0 0 0 0 (9, 0, 0, 0)
theorem fewF_w {q : LQ} (h : okS q) (p : Nat) : (fewF q p).2.2.2 ≤ 6561 := by
  have h1 := skF_w (ldD q none p p) (q 6 0) 0 0 0 0 (9, 0, 0, 0)
  have h2 : 3 ^ q 6 0 ≤ 3 ^ 8 := Nat.pow_le_pow_right (by decide) h.1
  have h3 : (3 : Nat) ^ 8 = 6561 := by decide
  unfold fewF
  show _ ≤ 6561
  have : ((9, 0, 0, 0) : FF).2.2.2 = 0 := rfl
  omega
theorem t_findsFewest (d : Nat) {q : LQ} {a : Nat → Nat → Int32} {s : Nat → Int32} (hr : relS q a s) (b : Nat → Nat → Int32) (t : Nat → Int32) {p : Nat} (hp : p < 65536) : xCt xMs (d + 12) nX3_findsFewest [.ref 0, .ref 5, .int (nI p)] (eSL b t a s) (fun v z => v = some (.int (bI (decide (0 < (fewF q p).2.2.2)))) ∧ ∃ b' t', z = eSL b' (tF t' (fewF q p)) a s) := by
  have hw := fewF_w hr.1 p
  have h8 := hr.1.1
  refine xV (M := mX3_findsFewest) rfl rfl rfl rfl rfl pX3_findsFewest rfl (fun G g1 g2 g3 => ?_)
  refine xwp_go g1 [] 100 _ _ _ _ ?_
  refine xcall (G := G) g3 pSL (t_load (d + 8) hr b t (Or.inl ⟨rfl, rfl⟩) hp hp) (fun v wc' hpp _ => ?_)
  obtain ⟨rfl, b', t', hl, rfl⟩ := hpp
  rw [xputSL]
  refine xwp_go g1 [] 100 _ _ _ _ ?_
  refine xcall (G := G) g3 pS (t_seekFewest hl (q 6 0) (d + 11) 0 0 0 0 (9, 0, 0, 0) (by omega) (by omega) (by decide) (by decide) (by decide) ⟨by decide, by decide, by decide⟩) (fun v wc' hpp _ => ?_) rfl rfl rfl rfl rfl (xsubSL b' (tF t' (9, 0, 0, 0)) a s)
  obtain ⟨rfl, rfl⟩ := hpp
  show G 37 [some (.ref 0), some (.ref 5), some (.int (nI p))] [] (eSL b' (tF t' (fewF q p)) a s)
  have e6 : tF t' (fewF q p) 6 = nI (fewF q p).2.2.2 := rfl
  refine xwp_go g1 [] 100 _ _ _ _ ?_
  refine And.intro (fun h => ?_) (fun h => ?_) <;> rw [e6, show (0 : Int32) = nI 0 from rfl, nI_leI (by omega) (by decide)] at h
  · exact xrz' (G := G) g2 rfl (Or.inl rfl) ⟨by rw [decide_eq_false (by omega)]; rfl, b', t', rfl⟩
  · exact xrz' (G := G) g2 rfl (Or.inr rfl) ⟨by rw [decide_eq_true (by omega)]; rfl, b', t', rfl⟩
def cheC (q : LQ) (p : Nat) : Nat := skC (ldD q none p p) (q 6 0) 0 0 0 1000
theorem t_leastPrice (d : Nat) {q : LQ} {a : Nat → Nat → Int32} {s : Nat → Int32} (hr : relS q a s) (b : Nat → Nat → Int32) (t : Nat → Int32) {p : Nat} (hp : p < 65536) : xCt xMs (d + 12) nX3_leastPrice [.ref 0, .ref 5, .int (nI p)] (eSL b t a s) (fun v z => v = some (.int (if cheC q p = 1000 then -1 else nI (cheC q p))) ∧ ∃ b' t', z = eSL b' t' a s) := by
  have h8 := hr.1.1
  have hc : cheC q p ≤ 1000 := skC_le _ _ _ _ _ _
  refine xV (M := mX3_leastPrice) rfl rfl rfl rfl rfl pX3_leastPrice rfl (fun G g1 g2 g3 => ?_)
  refine xwp_go g1 [] 100 _ _ _ _ ?_
  refine xcall (G := G) g3 pSL (t_load (d + 8) hr b t (Or.inl ⟨rfl, rfl⟩) hp hp) (fun v wc' hpp _ => ?_)
  obtain ⟨rfl, b', t', hl, rfl⟩ := hpp
  rw [xputSL]
  refine xwp_go g1 [] 100 _ _ _ _ ?_
  refine xcall (G := G) g3 pS (t_seekCheapest hl (q 6 0) (d + 11) 0 0 0 1000 (by omega) (by omega) (by decide) (by decide) (by decide)) (fun v wc' hpp _ => ?_) rfl rfl rfl rfl rfl (xsubSL b' (sU t' 2 (nI 1000)) a s)
  obtain ⟨rfl, rfl⟩ := hpp
  show G 22 [some (.ref 0), some (.ref 5), some (.int (nI p))] [] (eSL b' (sU t' 2 (nI (cheC q p))) a s)
  have e6 : sU t' 2 (nI (cheC q p)) 2 = nI (cheC q p) := rfl
  refine xwp_go g1 [] 100 _ _ _ _ ?_
  refine And.intro (fun h => ?_) (fun h => ?_) <;> rw [e6, show (1000 : Int32) = nI 1000 from rfl, nI_eq (by omega) (by decide)] at h
  · exact xri' (G := G) g2 rfl ⟨by rw [if_neg h]; rfl, b', _, rfl⟩
  · exact xri' (G := G) g2 rfl ⟨by rw [if_pos h], b', _, rfl⟩
def neaN (q : LQ) (p : Nat) : Nat := skN (ldD q none p 65535) (q 6 0) 0 0 17
theorem t_leastUnlike (d : Nat) {q : LQ} {a : Nat → Nat → Int32} {s : Nat → Int32} (hr : relS q a s) (b : Nat → Nat → Int32) (t : Nat → Int32) {p : Nat} (hp : p < 65536) : xCt xMs (d + 12) nX3_leastUnlike [.ref 0, .ref 5, .int (nI p)] (eSL b t a s) (fun v z => v = some (.int (nI (neaN q p))) ∧ ∃ b' t', z = eSL b' t' a s) := by
  have h8 := hr.1.1
  refine xV (M := mX3_leastUnlike) rfl rfl rfl rfl rfl pX3_leastUnlike rfl (fun G g1 g2 g3 => ?_)
  refine xwp_go g1 [] 100 _ _ _ _ ?_
  refine xcall (G := G) g3 pSL (t_load (d + 8) hr b t (Or.inl ⟨rfl, rfl⟩) hp (al := 65535) (by decide)) (fun v wc' hpp _ => ?_)
  obtain ⟨rfl, b', t', hl, rfl⟩ := hpp
  rw [xputSL]
  refine xwp_go g1 [] 100 _ _ _ _ ?_
  refine xcall (G := G) g3 pS (t_seekNear hl (q 6 0) (d + 11) 0 0 17 (by omega) (by omega) (by decide) (by decide)) (fun v wc' hpp _ => ?_) rfl rfl rfl rfl rfl (xsubSL b' (sU t' 2 (nI 17)) a s)
  obtain ⟨rfl, rfl⟩ := hpp
  show G 21 [some (.ref 0), some (.ref 5), some (.int (nI p))] [] (eSL b' (sU t' 2 (nI (neaN q p))) a s)
  refine xwp_go g1 [] 100 _ _ _ _ ?_
  exact xri' (G := G) g2 rfl ⟨rfl, b', _, rfl⟩
def canC (q : LQ) (x : Option Nat) : Nat → Nat
  | 0 => 0
  | i + 1 => if shB (ldD q x (q 5 i) (q 5 i)) (q 6 0) 0 0 = true then canC q x i ||| 2 ^ i else canC q x i
theorem t_showable (d : Nat) {q : LQ} {a : Nat → Nat → Int32} {s : Nat → Int32} (hr : relS q a s) (b : Nat → Nat → Int32) (t : Nat → Int32) {w : Int32} {x : Option Nat} (hw : wOut q w x) : xCt xMs (d + 12) nX3_showable [.ref 0, .ref 5, .int w] (eSL b t a s) (fun v z => v = some (.int (nI (canC q x (q 6 1)))) ∧ ∃ b' t', z = eSL b' t' a s) := by
  have h8 := hr.1.1
  have h6 := hr.1.2.1
  have h1 := hr.2.2.2.2.1
  refine xV (M := mX3_showable) rfl rfl rfl rfl rfl pX3_showable rfl (fun G g1 g2 g3 => ?_)
  refine xwp_go g1 [5] 100 _ _ _ _ ?_
  refine up (k := q 6 1) (P := fun i => ∀ u y z5 b1 t1, u = nI i → y = nI (canC q x i) → G 5 [some (.ref 0), some (.ref 5), some (.int w), some (.int y), some (.int u), z5] [] (eSL b1 t1 a s)) ?_ ?_ 0 (Nat.zero_le _) _ _ _ b t rfl rfl
  · intro u y z5 b1 t1 hu hy
    subst hu; subst hy
    refine xwp_go g1 [5] 100 _ _ _ _ ?_
    refine And.intro (fun _ => xri' (G := G) g2 rfl ⟨rfl, b1, t1, rfl⟩) (fun h => ?_)
    rw [h1] at h
    exact absurd (nI_le (Nat.le_refl _) (by omega)) h
  · intro i hi ih u y z5 b1 t1 hu hy
    subst hu; subst hy
    have hb := hr.1.2.2.2.2.2 i hi
    have es : canC q x (i + 1) = if shB (ldD q x (q 5 i) (q 5 i)) (q 6 0) 0 0 = true then canC q x i ||| 2 ^ i else canC q x i := rfl
    refine xwp_go g1 [5] 100 _ _ _ _ ?_
    refine And.intro (fun h => ?_) (fun _ => ?_)
    · rw [h1] at h
      exact absurd h (nI_ge hi (by omega))
    refine xcallR (G := G) g3 pSl (c_wantedPicture (d + 9) hr hi) ?_
    refine xwp_go g1 [5] 100 _ _ _ _ ?_
    refine xcall (G := G) g3 pSL (t_load (d + 8) hr b1 t1 hw hb hb) (fun v wc' hpp _ => ?_)
    obtain ⟨rfl, b', t', hl, rfl⟩ := hpp
    rw [xputSL]
    refine xwp_go g1 [5] 100 _ _ _ _ ?_
    refine xcallR (G := G) g3 pS (t_isShown hl (q 6 0) (d + 11) 0 0 (by omega) (by omega) (by decide)) ?_
    refine xwp_go g1 [5] 100 _ _ _ _ ?_
    refine And.intro (fun h => ?_) (fun h => ?_) <;> rw [bI_0] at h
    · exact ih _ _ _ b' t' (nI_1 i) (by rw [es, if_neg (by rw [h]; decide)])
    · rw [Bool.not_eq_false] at h
      exact ih _ _ _ b' t' (nI_1 i) (by rw [es, if_pos h, nI_pow (by omega), fa_or])
end
section
/-! the class's calls fewest, cheapest, near, can, worth -/
abbrev pSN : List Nat := [24, 25, 26, 27, 28, 1, 2, 3, 4, 5, 6, 7]
theorem xsubSN (A : Nat → Nat → Int32) (N : Nat → Int32) : xsub pSN (eSL (offA A 19) (ofN N 10) A N) (eX A N) := rfl
theorem xputSN (A b : Nat → Nat → Int32) (N t : Nat → Int32) : xput pSN pSN (eSL b t A N) (eX A N) = eX (ptA A 19 4 b) (ptN N 10 7 t) := rfl
theorem same_srch (A b : Nat → Nat → Int32) (N t : Nat → Int32) : sameX A N (ptA A 19 4 b) (ptN N 10 7 t) := ⟨fun r _ h => ptA_out (by omega), fun r _ h => ptN_out (by omega)⟩
/-- what the class finds is what the reference finds: proved behind -/
def fewEq (q : LQ) : Prop := ∀ p, p < 65536 → ∀ k, k ≤ 3 → (if 0 < (fewF q p).2.2.2 then fewI (some (fewF q p)) k else -9) = fewI (findQ q p).2.2 k
def cheEq (q : LQ) : Prop := ∀ p, p < 65536 → (if cheC q p = 1000 then (-9 : Int32) else nI (cheC q p)) = optI (findQ q p).2.1
def neaEq (q : LQ) : Prop := ∀ p, p < 65536 → neaN q p = (findQ q p).1
def canEq (q : LQ) : Prop := ∀ x, (x = none ∨ ∃ i, i < q 6 0 ∧ x = some i) → canC q x (q 6 1) = canN q x (q 6 1)
theorem x_fewest (d : Nat) {S : SG} {A : Nat → Nat → Int32} {N : Nat → Int32} (hr : relX S A N) (hE : fewEq S.1) (p w : Int32) : xCt xMs (d + 13) nX5_fewest [.ref 0, .int p, .int w] (eX A N) (pXs (spFewest S p w)) := by
  refine xV (M := mX5_fewest) rfl rfl rfl rfl rfl pX5_fewest rfl (fun G g1 g2 g3 => ?_)
  unfold spFewest at g2
  refine xwp_go g1 [] 100 _ _ _ _ ?_
  refine xcallR (G := G) g3 [] (x_wrongAsked (d + 10) [] p w 3) ?_
  refine xwp_go g1 [] 100 _ _ _ _ ?_
  refine And.intro (fun h => ?_) (fun h => ?_)
  · obtain ⟨b1, b2, ⟨k, hk, rfl⟩, ⟨m, hm, rfl⟩⟩ := wa_0 (m := 3) (by decide) h
    rw [wa_spec0 (m := 3) b1 b2, nI_clamp (by omega), nI_clamp (by omega), ← hE m hm k hk] at g2
    refine xcall (G := G) g3 pSN (t_findsFewest d hr.1 (offA A 19) (ofN N 10) hm) (fun v wc' hp _ => ?_) rfl rfl rfl rfl rfl (xsubSN A N)
    obtain ⟨rfl, b', t', rfl⟩ := hp
    rw [xputSN]
    have hX := relX_same hr (same_srch A b' N (tF t' (fewF S.1 m)))
    generalize fewF S.1 m = F at g2 hX
    refine xwp_go g1 [] 100 _ _ _ _ ?_
    refine And.intro (fun h1 => ?_) (fun h1 => ?_) <;> rw [bI_0] at h1
    · have h1 : 0 < F.2.2.2 := of_decide_eq_true (Bool.not_eq_false _ ▸ h1)
      rw [if_pos h1] at g2
      refine And.intro (fun h2 => ?_) (fun h2 => ?_) <;> rw [show (0 : Int32) = nI 0 from rfl, nI_eq (by omega) (by decide)] at h2
      · subst h2
        exact xri' (G := G) g2 rfl ⟨rfl, _, _, hX, rfl⟩
      refine And.intro (fun h3 => ?_) (fun h3 => ?_) <;> rw [show (1 : Int32) = nI 1 from rfl, nI_eq (by omega) (by decide)] at h3
      · subst h3
        exact xri' (G := G) g2 rfl ⟨rfl, _, _, hX, rfl⟩
      refine And.intro (fun h4 => ?_) (fun h4 => ?_) <;> rw [show (2 : Int32) = nI 2 from rfl, nI_eq (by omega) (by decide)] at h4
      · subst h4
        exact xri' (G := G) g2 rfl ⟨rfl, _, _, hX, rfl⟩
      · obtain rfl : k = 3 := by omega
        exact xri' (G := G) g2 rfl ⟨rfl, _, _, hX, rfl⟩
    · have h1 : ¬ 0 < F.2.2.2 := of_decide_eq_false h1
      rw [if_neg h1] at g2
      exact xri' (G := G) g2 rfl ⟨rfl, _, _, hX, rfl⟩
  · rw [wa_spec h] at g2
    refine xcXW (G := G) g3 (x_refused (d + 11) A N (wa_k h).1 (wa_k h).2.1 (wa_k h).2.2) ?_
    refine xwp_go g1 [] 100 _ _ _ _ ?_
    exact xri' (G := G) g2 rfl ⟨rfl, _, N, relX_no hr, rfl⟩
theorem x_cheapest (d : Nat) {S : SG} {A : Nat → Nat → Int32} {N : Nat → Int32} (hr : relX S A N) (hE : cheEq S.1) (p : Int32) : xCt xMs (d + 13) nX5_cheapest [.ref 0, .int p] (eX A N) (pXs (spCheapest S p)) := by
  refine xV (M := mX5_cheapest) rfl rfl rfl rfl rfl pX5_cheapest rfl (fun G g1 g2 g3 => ?_)
  unfold spCheapest at g2
  refine xwp_go g1 [] 100 _ _ _ _ ?_
  refine xcallR (G := G) g3 [] (x_wrongNumber (d + 11) [] p 0 65535) ?_
  refine xwp_go g1 [] 100 _ _ _ _ ?_
  refine And.intro (fun h => ?_) (fun h => ?_)
  · rw [if_neg (fun z => z h)] at g2
    obtain ⟨m, -, hm, rfl⟩ := bnd_0 (l := 0) (m := 65535) (by decide) (by decide) h
    rw [nI_clamp (by omega), ← hE m (by omega)] at g2
    refine xcall (G := G) g3 pSN (t_leastPrice d hr.1 (offA A 19) (ofN N 10) (p := m) (by omega)) (fun v wc' hp _ => ?_) rfl rfl rfl rfl rfl (xsubSN A N)
    obtain ⟨rfl, b', t', rfl⟩ := hp
    rw [xputSN]
    have hX := relX_same hr (same_srch A b' N t')
    have hle : cheC S.1 m ≤ 1000 := skC_le _ _ _ _ _ _
    by_cases e : cheC S.1 m = 1000
    · rw [if_pos e] at g2
      rw [if_pos e]
      refine xwp_go g1 [] 100 _ _ _ _ ?_
      refine And.intro (fun h => absurd h (by decide)) (fun _ => ?_)
      exact xri' (G := G) g2 rfl ⟨rfl, _, _, hX, rfl⟩
    · rw [if_neg e] at g2
      rw [if_neg e]
      refine xwp_go g1 [] 100 _ _ _ _ ?_
      refine And.intro (fun _ => ?_) (fun h => absurd (nI_pos' (by omega)) h)
      exact xri' (G := G) g2 rfl ⟨rfl, _, _, hX, rfl⟩
  · rw [if_pos h] at g2
    refine xcXW (G := G) g3 (x_refused (d + 11) A N (bnd_k0 h) (bnd_k h).1 (bnd_k h).2) ?_
    refine xwp_go g1 [] 100 _ _ _ _ ?_
    exact xri' (G := G) g2 rfl ⟨rfl, _, N, relX_no hr, rfl⟩
theorem x_near (d : Nat) {S : SG} {A : Nat → Nat → Int32} {N : Nat → Int32} (hr : relX S A N) (hE : neaEq S.1) (p : Int32) : xCt xMs (d + 13) nX5_near [.ref 0, .int p] (eX A N) (pXs (spNear S p)) := by
  refine xV (M := mX5_near) rfl rfl rfl rfl rfl pX5_near rfl (fun G g1 g2 g3 => ?_)
  unfold spNear at g2
  refine xwp_go g1 [] 100 _ _ _ _ ?_
  refine xcallR (G := G) g3 [] (x_wrongNumber (d + 11) [] p 0 65535) ?_
  refine xwp_go g1 [] 100 _ _ _ _ ?_
  refine And.intro (fun h => ?_) (fun h => ?_)
  · rw [if_neg (fun z => z h)] at g2
    obtain ⟨m, -, hm, rfl⟩ := bnd_0 (l := 0) (m := 65535) (by decide) (by decide) h
    rw [nI_clamp (by omega), ← hE m (by omega)] at g2
    refine xcall (G := G) g3 pSN (t_leastUnlike d hr.1 (offA A 19) (ofN N 10) (p := m) (by omega)) (fun v wc' hp _ => ?_) rfl rfl rfl rfl rfl (xsubSN A N)
    obtain ⟨rfl, b', t', rfl⟩ := hp
    rw [xputSN]
    refine xwp_go g1 [] 100 _ _ _ _ ?_
    exact xri' (G := G) g2 rfl ⟨rfl, _, _, relX_same hr (same_srch A b' N t'), rfl⟩
  · rw [if_pos h] at g2
    refine xcXW (G := G) g3 (x_refused (d + 11) A N (bnd_k0 h) (bnd_k h).1 (bnd_k h).2) ?_
    refine xwp_go g1 [] 100 _ _ _ _ ?_
    exact xri' (G := G) g2 rfl ⟨rfl, _, N, relX_no hr, rfl⟩
theorem x_can (d : Nat) {S : SG} {A : Nat → Nat → Int32} {N : Nat → Int32} (hr : relX S A N) (hE : canEq S.1) (x : Int32) : xCt xMs (d + 13) nX5_can [.ref 0, .int x] (eX A N) (pXs (spCan S x)) := by
  have h8 := hr.1.1.1
  refine xV (M := mX5_can) rfl rfl rfl rfl rfl pX5_can rfl (fun G g1 g2 g3 => ?_)
  unfold spCan at g2
  have fin : ∀ o, wOut S.1 x o → xG2 mX5_can.2.2.2.2.1 mX5_can.2.2.2.1 (pXs (nI (canN S.1 o (S.1 6 1)), S)) G → G 22 [some (.ref 0), some (.int x)] [] (eX A N) := by
    intro o ho g2
    rw [← hE o (by rcases ho with ⟨-, e⟩ | ⟨i, hi, -, e⟩; exact Or.inl e; exact Or.inr ⟨i, hi, e⟩)] at g2
    refine xwp_go g1 [] 100 _ _ _ _ ?_
    refine xcall (G := G) g3 pSN (t_showable d hr.1 (offA A 19) (ofN N 10) ho) (fun v wc' hp _ => ?_) rfl rfl rfl rfl rfl (xsubSN A N)
    obtain ⟨rfl, b', t', rfl⟩ := hp
    rw [xputSN]
    refine xwp_go g1 [] 100 _ _ _ _ ?_
    exact xri' (G := G) g2 rfl ⟨rfl, _, _, relX_same hr (same_srch A b' N t'), rfl⟩
  refine xwp_go g1 [22] 100 _ _ _ _ ?_
  refine And.intro (fun h => ?_) (fun h => ?_)
  · rw [if_pos h] at g2
    exact fin none (Or.inl ⟨h, rfl⟩) g2
  · rw [if_neg h] at g2
    refine xcN (G := G) g3 (c_has (d + 11) hr.1 x) ?_
    refine xwp_go g1 [22] 100 _ _ _ _ ?_
    refine And.intro (fun h' => ?_) (fun h' => ?_) <;> rw [bI_0] at h'
    · rw [if_neg h'] at g2
      obtain ⟨i, hi, rfl⟩ := hasB_of (by omega) (Bool.not_eq_false _ ▸ h')
      rw [nI_clamp (by omega)] at g2
      exact fin (some i) (Or.inr ⟨i, hi, rfl, rfl⟩) g2
    · rw [if_pos h'] at g2
      refine xcXW (G := G) g3 (x_refused (d + 11) A N (why := -1) (k := 1) (by decide) (by decide) (by decide)) ?_
      refine xwp_go g1 [] 100 _ _ _ _ ?_
      exact xri' (G := G) g2 rfl ⟨rfl, _, N, relX_no (k := 1) hr, rfl⟩
theorem x_worth (d : Nat) {S : SG} {A : Nat → Nat → Int32} {N : Nat → Int32} (hr : relX S A N) (hE : canEq S.1) (x : Int32) : xCt xMs (d + 13) nX5_worth [.ref 0, .int x] (eX A N) (pXs (spWorth S x)) := by
  have h8 := hr.1.1.1
  refine xV (M := mX5_worth) rfl rfl rfl rfl rfl pX5_worth rfl (fun G g1 g2 g3 => ?_)
  unfold spWorth at g2
  refine xwp_go g1 [] 100 _ _ _ _ ?_
  refine xcX (G := G) g3 (x_wrongSlide (d + 10) hr.1 x) ?_
  refine xwp_go g1 [] 100 _ _ _ _ ?_
  refine And.intro (fun h => ?_) (fun h => ?_) <;> rw [wsI_0] at h
  · rw [if_neg (by rw [h]; decide)] at g2
    obtain ⟨i, hi, rfl⟩ := hasB_of (by omega) h
    rw [nI_clamp (by omega), ← hE none (Or.inl rfl), ← hE (some i) (Or.inr ⟨i, hi, rfl⟩)] at g2
    generalize wsI (hasB (S.1 6 0) (nI i)) = u2
    refine xcall (G := G) g3 pSN (t_showable d hr.1 (offA A 19) (ofN N 10) (w := -1) (x := none) (Or.inl ⟨rfl, rfl⟩)) (fun v wc' hp _ => ?_) rfl rfl rfl rfl rfl (xsubSN A N)
    obtain ⟨rfl, b', t', rfl⟩ := hp
    rw [xputSN]
    have hX := relX_same hr (same_srch A b' N t')
    generalize ptA A 19 4 b' = A1 at hX
    generalize ptN N 10 7 t' = N1 at hX
    refine xwp_go g1 [] 100 _ _ _ _ ?_
    have c1 : canC S.1 none (S.1 6 1) < 65536 := by rw [hE none (Or.inl rfl)]; exact canN_16 hr.1.1 none
    have c2 : canC S.1 (some i) (S.1 6 1) < 65536 := by rw [hE (some i) (Or.inr ⟨i, hi, rfl⟩)]; exact canN_16 hr.1.1 (some i)
    refine xcallR (G := G) g3 [] (c_bitCount (d + 11) [] c1) ?_
    refine xwp_go g1 [] 100 _ _ _ _ ?_
    refine xcall (G := G) g3 pSN (t_showable d hX.1 (offA A1 19) (ofN N1 10) (w := nI i) (x := some i) (Or.inr ⟨i, hi, rfl, rfl⟩)) (fun v wc' hp _ => ?_) rfl rfl rfl rfl rfl (xsubSN A1 N1)
    obtain ⟨rfl, b2, t2, rfl⟩ := hp
    rw [xputSN]
    refine xwp_go g1 [] 100 _ _ _ _ ?_
    refine xcallR (G := G) g3 [] (c_bitCount (d + 11) [] c2) ?_
    refine xwp_go g1 [] 100 _ _ _ _ ?_
    exact xri' (G := G) g2 rfl ⟨rfl, _, _, relX_same hX (same_srch A1 b2 N1 t2), rfl⟩
  · rw [Bool.not_eq_true] at h
    rw [if_pos h] at g2
    rw [h]
    refine xcXW (G := G) g3 (x_refused (d + 11) A N (why := -1) (k := 1) (by decide) (by decide) (by decide)) ?_
    refine xwp_go g1 [] 100 _ _ _ _ ?_
    exact xri' (G := G) g2 rfl ⟨rfl, _, N, relX_no (k := 1) hr, rfl⟩
end
section
/-! going through slide by slide finds what going through all sets finds: the leaves, and how many there are -/
def sb (a b : Nat) : Prop := ∀ k, a.testBit k = true → b.testBit k = true
theorem sb_0 {a b : Nat} : a ^^^ (a &&& b) = 0 ↔ sb a b := by
  constructor
  · intro h k hk
    have := congrArg (fun z => z.testBit k) h
    simp only [Nat.testBit_xor, Nat.testBit_and, Nat.zero_testBit, hk] at this
    cases hb : b.testBit k with
    | true => rfl
    | false => rw [hb] at this; exact absurd this (by decide)
  · intro h
    apply Nat.eq_of_testBit_eq
    intro k
    rw [Nat.testBit_xor, Nat.testBit_and, Nat.zero_testBit]
    cases ha : a.testBit k with
    | false => cases b.testBit k <;> rfl
    | true => rw [h k ha]; rfl
theorem sb_refl (a : Nat) : sb a a := fun _ h => h
theorem sb_trans {a b c : Nat} (h : sb a b) (h2 : sb b c) : sb a c := fun k hk => h2 k (h k hk)
theorem sb_or {a b c : Nat} (h : sb a c) (h2 : sb b c) : sb (a ||| b) c := fun k hk => by
  rw [Nat.testBit_or, Bool.or_eq_true] at hk
  exact hk.elim (h k) (h2 k)
theorem sb_l (a b : Nat) : sb a (a ||| b) := fun k hk => by rw [Nat.testBit_or, hk]; rfl
theorem sb_r (a b : Nat) : sb b (a ||| b) := fun k hk => by rw [Nat.testBit_or, hk, Bool.or_true]
theorem sb_eq {a b : Nat} (h : sb a b) (h2 : sb b a) : a = b := Nat.eq_of_testBit_eq (fun k => by
  cases ha : a.testBit k with
  | true => exact (h k ha).symm
  | false =>
    cases hb : b.testBit k with
    | false => rfl
    | true => rw [h2 k hb] at ha; exact absurd ha (by decide))
theorem sb_or_eq {a b : Nat} (h : sb b a) : a ||| b = a := sb_eq (sb_or (sb_refl a) h) (sb_l a b)
theorem sb_lt {a : Nat} (h : a < 65536) : sb a 65535 := fun k hk => by
  rw [show (65535 : Nat) = 2 ^ 16 - 1 from rfl, Nat.testBit_two_pow_sub_one]
  rcases Nat.lt_or_ge k 16 with h1 | h1
  · exact decide_eq_true h1
  · rw [Nat.testBit_lt_two_pow (Nat.lt_of_lt_of_le h (Nat.pow_le_pow_right (n := 2) (by decide) h1))] at hk
    exact absurd hk (by decide)
theorem sb_pop {a b : Nat} (h : sb a b) : pop a ≤ pop b := popL_mono h 16
/-- the leaves below -/
def lvs : Nat → Nat → Nat × Nat → List (Nat × Nat)
  | 0, _, x => [x]
  | j + 1, i, x => lvs j (i + 1) x ++ (lvs j (i + 1) (x.1 ||| 2 ^ i, x.2) ++ lvs j (i + 1) (x.1 ||| 2 ^ i, x.2 ||| 2 ^ i))
theorem bit_same {m i k : Nat} (h : k < i) : (m ||| 2 ^ i).testBit k = m.testBit k := by
  rw [Nat.testBit_or, Nat.testBit_two_pow, decide_eq_false (by omega), Bool.or_false]
theorem bit_at (m i : Nat) : (m ||| 2 ^ i).testBit i = true := by
  rw [Nat.testBit_or, Nat.testBit_two_pow, decide_eq_true rfl, Bool.or_true]
theorem bit_no {m i : Nat} (h : m < 2 ^ i) : m.testBit i = false := Nat.testBit_lt_two_pow h
/-- a leaf is as its stem, below -/
theorem lvs_same : ∀ j i x e, e ∈ lvs j i x → ∀ k, k < i → e.1.testBit k = x.1.testBit k ∧ e.2.testBit k = x.2.testBit k := by
  intro j
  induction j with
  | zero =>
    intro i x e he k hk
    rw [List.mem_singleton.mp he]
    exact ⟨rfl, rfl⟩
  | succ j ih =>
    intro i x e he k hk
    rcases List.mem_append.mp he with h | h
    · exact ih _ _ _ h k (by omega)
    · rcases List.mem_append.mp h with h | h
      · have := ih _ _ _ h k (by omega)
        rw [bit_same hk] at this
        exact this
      · have := ih _ _ _ h k (by omega)
        rw [bit_same hk, bit_same hk] at this
        exact this
def faceQ (q : LQ) (o k : Nat) : Nat := if o.testBit k then mirN (onQ q k) else onQ q k
theorem laid_s (q : LQ) (s o i : Nat) : laidL q s o (i + 1) = if s.testBit i then laidL q s o i ||| faceQ q o i else laidL q s o i := rfl
theorem laid_same {q : LQ} {s o s' o' : Nat} : ∀ i, (∀ k, k < i → s'.testBit k = s.testBit k ∧ o'.testBit k = o.testBit k) → laidL q s' o' i = laidL q s o i
  | 0, _ => rfl
  | i + 1, h => by
    rw [laid_s, laid_s, laid_same i (fun k hk => h k (by omega)), (h i (by omega)).1]
    unfold faceQ
    rw [(h i (by omega)).2]
theorem cost_s (q : LQ) (s i : Nat) : costL q s (i + 1) = costL q s i + (if s.testBit i then q 3 i else 0) := rfl
theorem cost_same {q : LQ} {s s' : Nat} : ∀ i, (∀ k, k < i → s'.testBit k = s.testBit k) → costL q s' i = costL q s i
  | 0, _ => rfl
  | i + 1, h => by rw [cost_s, cost_s, cost_same i (fun k hk => h k (by omega)), h i (by omega)]
theorem laid_mono (q : LQ) (s o i : Nat) : ∀ j, sb (laidL q s o i) (laidL q s o (i + j))
  | 0 => sb_refl _
  | j + 1 => by
    refine sb_trans (laid_mono q s o i j) ?_
    show sb _ (laidL q s o (i + j + 1))
    rw [laid_s]
    split
    · exact sb_l _ _
    · exact sb_refl _
theorem cost_mono (q : LQ) (s i : Nat) : ∀ j, costL q s i ≤ costL q s (i + j)
  | 0 => Nat.le_refl _
  | j + 1 => by
    have := cost_mono q s i j
    show _ ≤ costL q s (i + j + 1)
    rw [cost_s]
    omega
theorem face_in {q : LQ} {s o i : Nat} (h : s.testBit i = true) : sb (faceQ q o i) (laidL q s o (i + 1)) := by
  rw [laid_s, if_pos h]
  exact sb_r _ _
theorem lay_y {x al : Nat} (h : sb x al) : layO x al = some x := by unfold layO; rw [if_pos (sb_0.mpr h)]
theorem lay_n {x al : Nat} (h : ¬ sb x al) : layO x al = none := by unfold layO; rw [if_neg (fun z => h (sb_0.mp z))]
/-- what is shown comes of what lies and what can still come -/
theorem in_reach {q : LQ} {x : Option Nat} {p al s o : Nat} (ho : ∀ k, k < q 6 0 → s.testBit k = true → x ≠ some k) (ha : sb (laidL q s o (q 6 0)) al) : ∀ j i, i + j = q 6 0 → sb (laidL q s o (q 6 0)) (laidL q s o i ||| (ldD q x p al).2.2.2.1 i) := by
  intro j
  induction j with
  | zero =>
    intro i hi
    obtain rfl : i = q 6 0 := by omega
    exact sb_l _ _
  | succ j ih =>
    intro i hi
    have eR : (ldD q x p al).2.2.2.1 i = (ldD q x p al).2.2.2.1 (i + 1) ||| dk (strO q x al i) ||| dk (turO q x al i) := by
      show rchL _ _ _ (q 6 0 - i) = rchL _ _ _ (q 6 0 - (i + 1)) ||| _ ||| _
      rw [show q 6 0 - i = (q 6 0 - (i + 1)) + 1 by omega]
      show rchL _ _ _ (q 6 0 - (i + 1)) ||| dk (strO q x al (q 6 0 - (q 6 0 - (i + 1) + 1))) ||| dk (turO q x al (q 6 0 - (q 6 0 - (i + 1) + 1))) = _
      rw [show q 6 0 - (q 6 0 - (i + 1) + 1) = i by omega]
    refine sb_trans (ih (i + 1) (by omega)) ?_
    rw [eR]
    have hR : sb ((ldD q x p al).2.2.2.1 (i + 1)) (laidL q s o i ||| ((ldD q x p al).2.2.2.1 (i + 1) ||| dk (strO q x al i) ||| dk (turO q x al i))) := sb_trans (sb_trans (sb_l _ _) (sb_l _ _)) (sb_r _ _)
    rw [laid_s]
    split
    · next hb =>
      have hf : sb (faceQ q o i) al := by
        refine sb_trans (face_in hb) (sb_trans ?_ ha)
        have := laid_mono q s o (i + 1) (q 6 0 - (i + 1))
        rw [show i + 1 + (q 6 0 - (i + 1)) = q 6 0 by omega] at this
        exact this
      refine sb_or (sb_or (sb_l _ _) ?_) hR
      have hx := ho i (by omega) hb
      unfold faceQ at hf ⊢
      split at hf
      · next h2 =>
        rw [if_pos h2]
        have e : turO q x al i = some (mirN (onQ q i)) := by unfold turO; rw [if_neg hx, lay_y hf]
        rw [e]
        exact sb_trans (sb_r _ _) (sb_r _ _)
      · next h2 =>
        rw [if_neg h2]
        have e : strO q x al i = some (onQ q i) := by unfold strO; rw [if_neg hx, lay_y hf]
        rw [e]
        exact sb_trans (sb_trans (sb_r _ _) (sb_l _ _)) (sb_r _ _)
    · exact sb_or (sb_l _ _) hR
theorem out_iff {q : LQ} {x : Option Nat} {p al i sh : Nat} : outB (ldD q x p al) i sh = true ↔ ¬ sb p (sh ||| (ldD q x p al).2.2.2.1 i) := by
  unfold outB
  rw [Bool.not_eq_true', decide_eq_false_iff_not]
  exact not_congr sb_0
theorem reach_end (q : LQ) (x : Option Nat) (p al : Nat) : (ldD q x p al).2.2.2.1 (q 6 0) = 0 := by
  show rchL _ _ _ (q 6 0 - q 6 0) = 0
  rw [Nat.sub_self]; rfl
theorem fold_id {α β : Type} {f : β → α → β} {b : β} : ∀ (l : List α), (∀ e, e ∈ l → f b e = b) → l.foldl f b = b
  | [], _ => rfl
  | e :: l, h => by
    rw [List.foldl_cons, h e (List.mem_cons_self)]
    exact fold_id l (fun e he => h e (List.mem_cons_of_mem _ he))
def sumTo (f : Nat → Nat) : Nat → Nat
  | 0 => 0
  | k + 1 => sumTo f k + f k
theorem sum_congr {f g : Nat → Nat} : ∀ k, (∀ i, i < k → f i = g i) → sumTo f k = sumTo g k
  | 0, _ => rfl
  | k + 1, h => by
    show sumTo f k + f k = sumTo g k + g k
    rw [sum_congr k (fun i hi => h i (by omega)), h k (by omega)]
theorem sum_add (f g : Nat → Nat) : ∀ k, sumTo (fun i => f i + g i) k = sumTo f k + sumTo g k
  | 0 => rfl
  | k + 1 => by
    show sumTo (fun i => f i + g i) k + (f k + g k) = sumTo f k + f k + (sumTo g k + g k)
    rw [sum_add f g k]
    omega
theorem sum_two (f : Nat → Nat) : ∀ k, sumTo f (2 * k) = sumTo (fun i => f (2 * i) + f (2 * i + 1)) k
  | 0 => rfl
  | k + 1 => by
    show sumTo f (2 * k) + f (2 * k) + f (2 * k + 1) = _ + (f (2 * k) + f (2 * k + 1))
    rw [sum_two f k]
    omega
theorem sum_zero {f : Nat → Nat} : ∀ k, (∀ i, i < k → f i = 0) → sumTo f k = 0
  | 0, _ => rfl
  | k + 1, h => by
    show sumTo f k + f k = 0
    rw [sum_zero k (fun i hi => h i (by omega)), h k (by omega)]
theorem sum_more {f : Nat → Nat} {a : Nat} (h : ∀ i, a ≤ i → f i = 0) : ∀ k, sumTo f (a + k) = sumTo f a
  | 0 => rfl
  | k + 1 => by
    show sumTo f (a + k) + f (a + k) = _
    rw [sum_more h k, h (a + k) (by omega)]
    rfl
def oneI (b : Bool) : Nat := cond b 1 0
def cntL (P : Nat × Nat → Bool) (i set ov j : Nat) : Nat := sumTo (fun s => sumTo (fun o => oneI (subB o s && P (set + 2 ^ i * s, ov + 2 ^ i * o))) (2 ^ j)) (2 ^ j)
theorem sub_iff {o s : Nat} : subB o s = true ↔ sb o s := by
  unfold subB
  rw [decide_eq_true_eq]
  exact sb_0
theorem dbl_tb0 (n : Nat) (b : Bool) : (2 * n + b.toNat).testBit 0 = b := by
  rw [Nat.testBit_zero]
  cases b
  · exact decide_eq_false (by show ¬ (2 * n + 0) % 2 = 1; omega)
  · exact decide_eq_true (by show (2 * n + 1) % 2 = 1; omega)
theorem dbl_tbs (n k : Nat) (b : Bool) : (2 * n + b.toNat).testBit (k + 1) = n.testBit k := by
  rw [Nat.testBit_succ]
  congr 1
  cases b
  · show (2 * n + 0) / 2 = n; omega
  · show (2 * n + 1) / 2 = n; omega
theorem sub_dbl (o s : Nat) (a b : Bool) : subB (2 * o + a.toNat) (2 * s + b.toNat) = ((!a || b) && subB o s) := by
  rw [Bool.eq_iff_iff, sub_iff, Bool.and_eq_true, sub_iff]
  constructor
  · intro h
    refine ⟨?_, fun k hk => ?_⟩
    · have := h 0
      rw [dbl_tb0, dbl_tb0] at this
      cases a
      · rfl
      · rw [this rfl]; rfl
    · have := h (k + 1)
      rw [dbl_tbs, dbl_tbs] at this
      exact this hk
  · intro h k hk
    cases k with
    | zero =>
      rw [dbl_tb0] at hk ⊢
      have := h.1
      rw [hk] at this
      exact this
    | succ k =>
      rw [dbl_tbs] at hk ⊢
      exact h.2 k hk
theorem cnt_lvs (P : Nat × Nat → Bool) : ∀ j i set ov, set < 2 ^ i → ov < 2 ^ i → (lvs j i (set, ov)).countP P = cntL P i set ov j := by
  intro j
  induction j with
  | zero =>
    intro i set ov _ _
    show List.countP P [(set, ov)] = 0 + (0 + oneI (subB 0 0 && P (set + 2 ^ i * 0, ov + 2 ^ i * 0)))
    rw [show subB 0 0 = true from rfl, Nat.mul_zero, Nat.add_zero, Nat.add_zero, Bool.true_and, List.countP_cons, List.countP_nil, Nat.zero_add, Nat.zero_add, Nat.zero_add]
    cases P (set, ov) <;> rfl
  | succ j ih =>
    intro i set ov hs ho
    have es : ∀ m, m < 2 ^ i → m ||| 2 ^ i = m + 2 ^ i := by
      intro m hm
      have := Nat.two_pow_add_eq_or_of_lt hm 1
      rw [Nat.mul_one] at this
      rw [Nat.or_comm, ← this, Nat.add_comm]
    show List.countP P (lvs j (i + 1) (set, ov) ++ (lvs j (i + 1) (set ||| 2 ^ i, ov) ++ lvs j (i + 1) (set ||| 2 ^ i, ov ||| 2 ^ i))) = _
    rw [List.countP_append, List.countP_append, ih _ _ _ (up1 hs) (up1 ho), ih _ _ _ (bitS_lt hs) (up1 ho), ih _ _ _ (bitS_lt hs) (bitS_lt ho), es set hs, es ov ho]
    unfold cntL
    rw [show (2 : Nat) ^ (j + 1) = 2 * 2 ^ j by rw [Nat.pow_succ, Nat.mul_comm], sum_two, ← sum_add, ← sum_add]
    refine sum_congr _ (fun s _ => ?_)
    rw [sum_two, sum_two, ← sum_add, ← sum_add, ← sum_add]
    refine sum_congr _ (fun o _ => ?_)
    have p2 : (2 : Nat) ^ (i + 1) = 2 * 2 ^ i := by rw [Nat.pow_succ, Nat.mul_comm]
    have m0 : ∀ z, 2 ^ (i + 1) * z = 2 ^ i * (2 * z) := fun z => by rw [p2, Nat.mul_comm 2 (2 ^ i), Nat.mul_assoc]
    have m1 : ∀ y z, y + 2 ^ i + 2 ^ i * (2 * z) = y + 2 ^ i * (2 * z + 1) := fun y z => by rw [Nat.mul_add, Nat.mul_one]; omega
    have c00 : subB (2 * o) (2 * s) = subB o s := sub_dbl o s false false
    have c01 : subB (2 * o) (2 * s + 1) = subB o s := sub_dbl o s false true
    have c10 : subB (2 * o + 1) (2 * s) = false := sub_dbl o s true false
    have c11 : subB (2 * o + 1) (2 * s + 1) = subB o s := sub_dbl o s true true
    rw [c00, c01, c10, c11, m0, m0, m1, m1, Bool.false_and]
    show _ = oneI _ + 0 + (oneI _ + oneI _)
    omega
theorem cnt_row (P : Nat × Nat → Bool) (s : Nat) : ∀ k, (rowE s k).countP P = sumTo (fun o => oneI (subB o s && P (s, o))) k
  | 0 => rfl
  | k + 1 => by
    show _ = sumTo _ k + oneI (subB k s && P (s, k))
    cases h : subB k s with
    | true =>
      rw [rowE_s h, List.countP_append, cnt_row P s k, List.countP_cons, List.countP_nil]
      cases P (s, k) <;> rfl
    | false =>
      rw [rowE_n h, cnt_row P s k]
      rfl
theorem sb_le {a b : Nat} (h : sb a b) : a ≤ b := by
  have : a &&& b = a := Nat.eq_of_testBit_eq (fun k => by
    rw [Nat.testBit_and]
    cases ha : a.testBit k with
    | false => rfl
    | true => rw [h k ha]; rfl)
  exact le_of_sub this
theorem cnt_pre (P : Nat × Nat → Bool) (n : Nat) : ∀ k, k ≤ 2 ^ n → (preE k).countP P = sumTo (fun s => sumTo (fun o => oneI (subB o s && P (s, o))) (2 ^ n)) k
  | 0, _ => rfl
  | k + 1, hk => by
    rw [preE_s, List.countP_append, cnt_pre P n k (by omega), cnt_row]
    show _ = sumTo _ k + sumTo (fun o => oneI (subB o k && P (k, o))) (2 ^ n)
    have := sum_more (f := fun o => oneI (subB o k && P (k, o))) (a := k + 1) (fun o ho => by
      have : subB o k = false := by
        rw [Bool.eq_false_iff]
        intro z
        have := sb_le (sub_iff.mp z)
        omega
      show oneI (subB o k && P (k, o)) = 0
      rw [this]; rfl) (2 ^ n - (k + 1))
    rw [show k + 1 + (2 ^ n - (k + 1)) = 2 ^ n by omega] at this
    rw [this]
/-- as many of a kind among the leaves as among all -/
theorem cnt_all (P : Nat × Nat → Bool) (n : Nat) : (lvs n 0 (0, 0)).countP P = (allE n).countP P := by
  rw [cnt_lvs P n 0 0 0 (by decide) (by decide)]
  unfold allE cntL
  rw [cnt_pre P n (2 ^ n) (Nat.le_refl _)]
  refine sum_congr _ (fun s _ => sum_congr _ (fun o _ => ?_))
  rw [Nat.pow_zero, Nat.one_mul, Nat.one_mul, Nat.zero_add, Nat.zero_add]
theorem mem_all {n : Nat} {e : Nat × Nat} : e ∈ lvs n 0 (0, 0) ↔ e ∈ allE n := by
  have key : ∀ l : List (Nat × Nat), e ∈ l ↔ 0 < l.countP (fun z => decide (z = e)) := by
    intro l
    rw [List.countP_pos_iff]
    constructor
    · intro h; exact ⟨e, h, decide_eq_true rfl⟩
    · intro ⟨z, hz, h⟩
      rw [← of_decide_eq_true h]; exact hz
  rw [key, key, cnt_all]
end
section
/-! the search slide by slide is a fold over the leaves -/
def stF (q : LQ) (p : Nat) (F : FF) (e : Nat × Nat) : FF := if laidQ q e.1 e.2 = p then (if F.1 < pop e.1 then F else noteF F e.1 e.2) else F
def stC (q : LQ) (p : Nat) (m : Nat) (e : Nat × Nat) : Nat := if laidQ q e.1 e.2 = p then (if m ≤ costL q e.1 (q 6 0) then m else costL q e.1 (q 6 0)) else m
def stN (q : LQ) (p : Nat) (m : Nat) (e : Nat × Nat) : Nat := if m ≤ pop (laidQ q e.1 e.2 ^^^ p) then m else pop (laidQ q e.1 e.2 ^^^ p)
theorem lvs_laid {q : LQ} {j i : Nat} {x e : Nat × Nat} (he : e ∈ lvs j i x) : laidL q e.1 e.2 i = laidL q x.1 x.2 i := laid_same i (lvs_same j i x e he)
theorem lvs_cost {q : LQ} {j i : Nat} {x e : Nat × Nat} (he : e ∈ lvs j i x) : costL q e.1 i = costL q x.1 i := cost_same i (fun k hk => (lvs_same j i x e he k hk).1)
theorem laid_up {q : LQ} {s o i : Nat} (hi : i ≤ q 6 0) : sb (laidL q s o i) (laidQ q s o) := by
  have := laid_mono q s o i (q 6 0 - i)
  rw [show i + (q 6 0 - i) = q 6 0 by omega] at this
  exact this
theorem cost_up {q : LQ} {s i : Nat} (hi : i ≤ q 6 0) : costL q s i ≤ costL q s (q 6 0) := by
  have := cost_mono q s i (q 6 0 - i)
  rw [show i + (q 6 0 - i) = q 6 0 by omega] at this
  exact this
theorem lvs_pop {j i : Nat} {x e : Nat × Nat} (hx : x.1 < 2 ^ i) (he : e ∈ lvs j i x) : pop x.1 ≤ pop e.1 := sb_pop (fun k hk => by
  rcases Nat.lt_or_ge k i with h | h
  · rw [(lvs_same j i x e he k h).1]; exact hk
  · rw [Nat.testBit_lt_two_pow (Nat.lt_of_lt_of_le hx (Nat.pow_le_pow_right (by decide) h))] at hk
    exact absurd hk (by decide))
/-- the three ways on -/
theorem laid_0 {q : LQ} {s o i : Nat} (hs : s < 2 ^ i) : laidL q s o (i + 1) = laidL q s o i := by rw [laid_s, bit_no hs]; rfl
theorem laid_1 {q : LQ} {s o i : Nat} (ho : o < 2 ^ i) : laidL q (s ||| 2 ^ i) o (i + 1) = laidL q s o i ||| onQ q i := by
  rw [laid_s, bit_at, if_pos rfl, laid_same i (fun k hk => ⟨bit_same hk, rfl⟩)]
  unfold faceQ
  rw [bit_no ho]; rfl
theorem laid_2 {q : LQ} {s o i : Nat} : laidL q (s ||| 2 ^ i) (o ||| 2 ^ i) (i + 1) = laidL q s o i ||| mirN (onQ q i) := by
  rw [laid_s, bit_at, if_pos rfl, laid_same i (fun k hk => ⟨bit_same hk, bit_same hk⟩)]
  unfold faceQ
  rw [bit_at]; rfl
theorem cost_0 {q : LQ} {s i : Nat} (hs : s < 2 ^ i) : costL q s (i + 1) = costL q s i := by rw [cost_s, bit_no hs]; rfl
theorem cost_1 {q : LQ} {s i : Nat} : costL q (s ||| 2 ^ i) (i + 1) = costL q s i + q 3 i := by rw [cost_s, bit_at, cost_same i (fun k hk => bit_same hk)]; rfl
theorem str_none {q : LQ} {p i : Nat} : strO q none p i = layO (onQ q i) p := by unfold strO; rw [if_neg (fun z => by cases z)]
theorem tur_none {q : LQ} {p i : Nat} : turO q none p i = layO (mirN (onQ q i)) p := by unfold turO; rw [if_neg (fun z => by cases z)]
/-- no leaf is shown where it is out of reach -/
theorem out_no {q : LQ} {p j i set ov : Nat} (hij : i + j = q 6 0) (ho : outB (ldD q none p p) i (laidL q set ov i) = true) {e : Nat × Nat} (he : e ∈ lvs j i (set, ov)) : ¬ laidQ q e.1 e.2 = p := by
  intro h
  have h1 := in_reach (q := q) (x := none) (p := p) (al := p) (s := e.1) (o := e.2) (fun k _ _ z => by cases z) (by show sb (laidQ q e.1 e.2) p; rw [h]; exact sb_refl p) j i hij
  have h2 := out_iff.mp ho
  rw [← lvs_laid he] at h2
  exact h2 (by show sb p _; rw [show p = laidL q e.1 e.2 (q 6 0) from h.symm]; rw [show laidL q e.1 e.2 (q 6 0) = p from h] at h1 ⊢; exact h1)
/-- no leaf is shown behind a side that harms -/
theorem harm_no {q : LQ} {p j i : Nat} {x e : Nat × Nat} (hij : i + 1 + j = q 6 0) (he : e ∈ lvs j (i + 1) x) {f : Nat} (hf : sb f (laidL q x.1 x.2 (i + 1))) (hn : ¬ sb f p) : ¬ laidQ q e.1 e.2 = p := by
  intro h
  refine hn (sb_trans hf ?_)
  rw [← lvs_laid he, ← h]
  exact laid_up (by omega)
theorem skF_fold {q : LQ} {p : Nat} : ∀ j i set ov F, i + j = q 6 0 → set < 2 ^ i → ov < 2 ^ i → sb (laidL q set ov i) p → skF (ldD q none p p) j i (laidL q set ov i) set ov F = (lvs j i (set, ov)).foldl (stF q p) F := by
  intro j
  induction j with
  | zero =>
    intro i set ov F hij hs ho hp
    obtain rfl : i = q 6 0 := by omega
    show _ = stF q p F (set, ov)
    unfold skF stF
    by_cases hO : outB (ldD q none p p) (q 6 0) (laidL q set ov (q 6 0)) = true
    · rw [if_pos hO, if_neg (out_no (q := q) (j := 0) (i := q 6 0) (Nat.add_zero _) hO (e := (set, ov)) (List.mem_singleton.mpr rfl))]
    · rw [if_neg hO]
      have h1 : sb p (laidL q set ov (q 6 0)) := Classical.byContradiction (fun hc => hO (out_iff.mpr (by rw [reach_end, Nat.or_zero]; exact hc)))
      rw [if_pos (show laidQ q set ov = p from sb_eq hp h1)]
  | succ j ih =>
    intro i set ov F hij hs ho hp
    unfold skF
    by_cases hO : outB (ldD q none p p) i (laidL q set ov i) = true
    · rw [if_pos hO]
      exact (fold_id _ (fun e he => by unfold stF; rw [if_neg (out_no hij hO he)])).symm
    rw [if_neg hO]
    by_cases hk : F.1 < pop set
    · rw [if_pos hk]
      refine (fold_id _ (fun e he => ?_)).symm
      have := lvs_pop (x := (set, ov)) hs he
      unfold stF
      rw [if_pos (show F.1 < pop e.1 from Nat.lt_of_lt_of_le hk this)]
      split <;> rfl
    rw [if_neg hk]
    show _ = (lvs j (i + 1) (set, ov) ++ (lvs j (i + 1) (set ||| 2 ^ i, ov) ++ lvs j (i + 1) (set ||| 2 ^ i, ov ||| 2 ^ i))).foldl (stF q p) F
    rw [List.foldl_append, List.foldl_append]
    have e1 : skF (ldD q none p p) j (i + 1) (laidL q set ov i) set ov F = (lvs j (i + 1) (set, ov)).foldl (stF q p) F := by
      have := ih (i + 1) set ov F (by omega) (up1 hs) (up1 ho) (by rw [laid_0 hs]; exact hp)
      rw [laid_0 hs] at this
      exact this
    rw [e1]
    generalize (lvs j (i + 1) (set, ov)).foldl (stF q p) F = F1
    have e2 : onO ((ldD q none p p).1 i) F1 (fun x => skF (ldD q none p p) j (i + 1) (laidL q set ov i ||| x) (set ||| 2 ^ i) ov F1) = (lvs j (i + 1) (set ||| 2 ^ i, ov)).foldl (stF q p) F1 := by
      rw [show (ldD q none p p).1 i = layO (onQ q i) p from str_none]
      by_cases hh : sb (onQ q i) p
      · rw [lay_y hh]
        have := ih (i + 1) (set ||| 2 ^ i) ov F1 (by omega) (bitS_lt hs) (up1 ho) (by rw [laid_1 ho]; exact sb_or hp hh)
        rw [laid_1 ho] at this
        exact this
      · rw [lay_n hh]
        exact (fold_id _ (fun e he => by unfold stF; rw [if_neg (harm_no (by omega) he (by rw [laid_1 ho]; exact sb_r _ _) hh)])).symm
    rw [e2]
    generalize (lvs j (i + 1) (set ||| 2 ^ i, ov)).foldl (stF q p) F1 = F2
    rw [show (ldD q none p p).2.1 i = layO (mirN (onQ q i)) p from tur_none]
    by_cases hh : sb (mirN (onQ q i)) p
    · rw [lay_y hh]
      have := ih (i + 1) (set ||| 2 ^ i) (ov ||| 2 ^ i) F2 (by omega) (bitS_lt hs) (bitS_lt ho) (by rw [laid_2]; exact sb_or hp hh)
      rw [laid_2] at this
      exact this
    · rw [lay_n hh]
      exact (fold_id _ (fun e he => by unfold stF; rw [if_neg (harm_no (by omega) he (by rw [laid_2]; exact sb_r _ _) hh)])).symm
theorem skC_fold {q : LQ} {p : Nat} : ∀ j i set ov m, i + j = q 6 0 → set < 2 ^ i → ov < 2 ^ i → sb (laidL q set ov i) p → skC (ldD q none p p) j i (laidL q set ov i) (costL q set i) m = (lvs j i (set, ov)).foldl (stC q p) m := by
  intro j
  induction j with
  | zero =>
    intro i set ov m hij hs ho hp
    obtain rfl : i = q 6 0 := by omega
    show _ = stC q p m (set, ov)
    unfold skC stC
    by_cases hO : outB (ldD q none p p) (q 6 0) (laidL q set ov (q 6 0)) = true
    · rw [if_pos hO, if_neg (out_no (q := q) (j := 0) (i := q 6 0) (Nat.add_zero _) hO (e := (set, ov)) (List.mem_singleton.mpr rfl))]
      split <;> rfl
    · rw [if_neg hO]
      have h1 : sb p (laidL q set ov (q 6 0)) := Classical.byContradiction (fun hc => hO (out_iff.mpr (by rw [reach_end, Nat.or_zero]; exact hc)))
      rw [if_pos (show laidQ q set ov = p from sb_eq hp h1)]
  | succ j ih =>
    intro i set ov m hij hs ho hp
    unfold skC
    by_cases hk : m ≤ costL q set i
    · rw [if_pos hk]
      refine (fold_id _ (fun e he => ?_)).symm
      have h1 := lvs_cost (q := q) he
      have h2 := cost_up (q := q) (s := e.1) (i := i) (by omega)
      unfold stC
      have h3 : costL q e.1 i = costL q set i := h1
      rw [if_pos (show m ≤ costL q e.1 (q 6 0) by omega)]
      split <;> rfl
    rw [if_neg hk]
    by_cases hO : outB (ldD q none p p) i (laidL q set ov i) = true
    · rw [if_pos hO]
      exact (fold_id _ (fun e he => by unfold stC; rw [if_neg (out_no hij hO he)])).symm
    rw [if_neg hO]
    show _ = (lvs j (i + 1) (set, ov) ++ (lvs j (i + 1) (set ||| 2 ^ i, ov) ++ lvs j (i + 1) (set ||| 2 ^ i, ov ||| 2 ^ i))).foldl (stC q p) m
    rw [List.foldl_append, List.foldl_append]
    have e1 : skC (ldD q none p p) j (i + 1) (laidL q set ov i) (costL q set i) m = (lvs j (i + 1) (set, ov)).foldl (stC q p) m := by
      have := ih (i + 1) set ov m (by omega) (up1 hs) (up1 ho) (by rw [laid_0 hs]; exact hp)
      rw [laid_0 hs, cost_0 hs] at this
      exact this
    rw [e1]
    generalize (lvs j (i + 1) (set, ov)).foldl (stC q p) m = F1
    have e2 : onO ((ldD q none p p).1 i) F1 (fun x => skC (ldD q none p p) j (i + 1) (laidL q set ov i ||| x) (costL q set i + (ldD q none p p).2.2.1 i) F1) = (lvs j (i + 1) (set ||| 2 ^ i, ov)).foldl (stC q p) F1 := by
      rw [show (ldD q none p p).1 i = layO (onQ q i) p from str_none]
      by_cases hh : sb (onQ q i) p
      · rw [lay_y hh]
        have := ih (i + 1) (set ||| 2 ^ i) ov F1 (by omega) (bitS_lt hs) (up1 ho) (by rw [laid_1 ho]; exact sb_or hp hh)
        rw [laid_1 ho, cost_1] at this
        exact this
      · rw [lay_n hh]
        exact (fold_id _ (fun e he => by unfold stC; rw [if_neg (harm_no (by omega) he (by rw [laid_1 ho]; exact sb_r _ _) hh)])).symm
    rw [e2]
    generalize (lvs j (i + 1) (set ||| 2 ^ i, ov)).foldl (stC q p) F1 = F2
    rw [show (ldD q none p p).2.1 i = layO (mirN (onQ q i)) p from tur_none]
    by_cases hh : sb (mirN (onQ q i)) p
    · rw [lay_y hh]
      have := ih (i + 1) (set ||| 2 ^ i) (ov ||| 2 ^ i) F2 (by omega) (bitS_lt hs) (bitS_lt ho) (by rw [laid_2]; exact sb_or hp hh)
      rw [laid_2, cost_1] at this
      exact this
    · rw [lay_n hh]
      exact (fold_id _ (fun e he => by unfold stC; rw [if_neg (harm_no (by omega) he (by rw [laid_2]; exact sb_r _ _) hh)])).symm
/-- what is too dark or too clear already stays so -/
theorem at_le {q : LQ} (hq : okS q) {p j i set ov : Nat} (hij : i + j = q 6 0) {e : Nat × Nat} (he : e ∈ lvs j i (set, ov)) : atN (ldD q none p 65535) i (laidL q set ov i) ≤ pop (laidQ q e.1 e.2 ^^^ p) := by
  have h1 := in_reach (q := q) (x := none) (p := p) (al := 65535) (s := e.1) (o := e.2) (fun k _ _ z => by cases z) (sb_lt (laidQ_lt hq e.1 e.2)) j i hij
  have h2 : sb (laidL q set ov i) (laidQ q e.1 e.2) := by
    have := lvs_laid (q := q) he
    rw [← show laidL q e.1 e.2 i = laidL q set ov i from this]
    exact laid_up (by omega)
  rw [show laidL q e.1 e.2 i = laidL q set ov i from lvs_laid he] at h1
  refine sb_pop (fun k hk => ?_)
  have hk : (((laidL q set ov i) ^^^ ((laidL q set ov i) &&& p)) ||| (p ^^^ (p &&& (laidL q set ov i ||| (ldD q none p 65535).2.2.2.1 i)))).testBit k = true := hk
  rw [Nat.testBit_or, Nat.testBit_xor, Nat.testBit_and, Nat.testBit_xor, Nat.testBit_and, Nat.testBit_or] at hk
  rw [Nat.testBit_xor]
  have g1 := h1 k
  have g2 := h2 k
  rw [Nat.testBit_or] at g1
  rw [show laidL q e.1 e.2 (q 6 0) = laidQ q e.1 e.2 from rfl] at g1
  generalize (laidQ q e.1 e.2).testBit k = b1 at g1 g2 ⊢
  generalize (laidL q set ov i).testBit k = b2 at g1 g2 hk
  generalize ((ldD q none p 65535).2.2.2.1 i).testBit k = b3 at g1 hk
  generalize p.testBit k = b4 at hk ⊢
  revert hk g1 g2
  cases b1 <;> cases b2 <;> cases b3 <;> cases b4 <;> decide
theorem skN_fold {q : LQ} (hq : okS q) {p : Nat} : ∀ j i set ov m, i + j = q 6 0 → set < 2 ^ i → ov < 2 ^ i → skN (ldD q none p 65535) j i (laidL q set ov i) m = (lvs j i (set, ov)).foldl (stN q p) m := by
  intro j
  induction j with
  | zero =>
    intro i set ov m hij hs ho
    obtain rfl : i = q 6 0 := by omega
    show _ = stN q p m (set, ov)
    unfold skN stN
    have : atN (ldD q none p 65535) (q 6 0) (laidL q set ov (q 6 0)) = pop (laidQ q set ov ^^^ p) := by
      unfold atN
      rw [reach_end, Nat.or_zero]
      refine congrArg pop (Nat.eq_of_testBit_eq (fun k => ?_))
      show (((laidQ q set ov) ^^^ ((laidQ q set ov) &&& p)) ||| (p ^^^ (p &&& laidQ q set ov))).testBit k = _
      rw [Nat.testBit_or, Nat.testBit_xor, Nat.testBit_and, Nat.testBit_xor, Nat.testBit_and, Nat.testBit_xor]
      cases (laidQ q set ov).testBit k <;> cases p.testBit k <;> rfl
    rw [this]
  | succ j ih =>
    intro i set ov m hij hs ho
    unfold skN
    by_cases hk : m ≤ atN (ldD q none p 65535) i (laidL q set ov i)
    · rw [if_pos hk]
      refine (fold_id _ (fun e he => ?_)).symm
      unfold stN
      rw [if_pos (Nat.le_trans hk (at_le hq hij he))]
    rw [if_neg hk]
    show _ = (lvs j (i + 1) (set, ov) ++ (lvs j (i + 1) (set ||| 2 ^ i, ov) ++ lvs j (i + 1) (set ||| 2 ^ i, ov ||| 2 ^ i))).foldl (stN q p) m
    rw [List.foldl_append, List.foldl_append]
    have e1 := ih (i + 1) set ov m (by omega) (up1 hs) (up1 ho)
    rw [laid_0 hs] at e1
    rw [e1]
    have ef : dk ((ldD q none p 65535).1 i) = onQ q i := by
      rw [show (ldD q none p 65535).1 i = layO (onQ q i) 65535 from str_none, lay_y (sb_lt (onQ_lt hq (by omega)))]
      rfl
    have eg : dk ((ldD q none p 65535).2.1 i) = mirN (onQ q i) := by
      rw [show (ldD q none p 65535).2.1 i = layO (mirN (onQ q i)) 65535 from tur_none, lay_y (sb_lt (mirN_lt _))]
      rfl
    rw [ef, eg]
    generalize (lvs j (i + 1) (set, ov)).foldl (stN q p) m = F1
    have e2 := ih (i + 1) (set ||| 2 ^ i) ov F1 (by omega) (bitS_lt hs) (up1 ho)
    rw [laid_1 ho] at e2
    rw [e2]
    generalize (lvs j (i + 1) (set ||| 2 ^ i, ov)).foldl (stN q p) F1 = F2
    have e3 := ih (i + 1) (set ||| 2 ^ i) (ov ||| 2 ^ i) F2 (by omega) (bitS_lt hs) (bitS_lt ho)
    rw [laid_2] at e3
    exact e3
end
section
/-! what both find -/
theorem fold_inv {α β : Type} {f : β → α → β} {P : List α → β → Prop} {L : List α} (hs : ∀ pre e post b, L = pre ++ e :: post → P pre b → P (pre ++ [e]) (f b e)) : ∀ post pre b, L = pre ++ post → P pre b → P L (post.foldl f b)
  | [], pre, b, h, hp => by
    rw [h, List.append_nil]
    exact hp
  | e :: post, pre, b, h, hp => fold_inv hs post (pre ++ [e]) (f b e) (by rw [h, List.append_assoc]; rfl) (hs pre e post b h hp)
theorem un_0 {q : LQ} (hq : okS q) {p : Nat} (hp : p < 65536) (e : Nat × Nat) : 0 < pop (laidQ q e.1 e.2 ^^^ p) ↔ ¬ laidQ q e.1 e.2 = p := by
  constructor
  · intro h z
    rw [z, Nat.xor_self] at h
    exact absurd h (by decide)
  · intro h
    refine pop_pos (Nat.xor_lt_two_pow (n := 16) (laidQ_lt hq _ _) hp) (fun z => h ?_)
    exact Nat.eq_of_testBit_eq (fun k => by
      have := congrArg (fun y => y.testBit k) z
      simp only [Nat.testBit_xor, Nat.zero_testBit] at this
      revert this
      cases (laidQ q e.1 e.2).testBit k <;> cases p.testBit k <;> decide)
theorem laid_start (q : LQ) : laidL q 0 0 0 = 0 := rfl
theorem sb_zero (p : Nat) : sb 0 p := fun k hk => by rw [Nat.zero_testBit] at hk; exact absurd hk (by decide)
/-- near -/
def PN (q : LQ) (p t : Nat) (l : List (Nat × Nat)) (m : Nat) : Prop := m ≤ t ∧ (∀ e, e ∈ l → m ≤ pop (laidQ q e.1 e.2 ^^^ p)) ∧ (m = t ∨ ∃ e, e ∈ l ∧ pop (laidQ q e.1 e.2 ^^^ p) = m)
theorem PN_s {q : LQ} {p t m : Nat} {l : List (Nat × Nat)} (h : PN q p t l m) (e : Nat × Nat) : PN q p t (l ++ [e]) (if m ≤ pop (laidQ q e.1 e.2 ^^^ p) then m else pop (laidQ q e.1 e.2 ^^^ p)) := by
  obtain ⟨h1, h2, h3⟩ := h
  by_cases hm : m ≤ pop (laidQ q e.1 e.2 ^^^ p)
  · rw [if_pos hm]
    refine ⟨h1, fun x hx => ?_, ?_⟩
    · rcases List.mem_append.mp hx with hx | hx
      · exact h2 x hx
      · rw [List.mem_singleton.mp hx]; exact hm
    · rcases h3 with h3 | ⟨x, hx, h3⟩
      · exact Or.inl h3
      · exact Or.inr ⟨x, List.mem_append.mpr (Or.inl hx), h3⟩
  · rw [if_neg hm]
    refine ⟨by omega, fun x hx => ?_, Or.inr ⟨e, List.mem_append.mpr (Or.inr (List.mem_singleton.mpr rfl)), rfl⟩⟩
    rcases List.mem_append.mp hx with hx | hx
    · have := h2 x hx; omega
    · rw [List.mem_singleton.mp hx]; exact Nat.le_refl _
theorem tell_1 (q : LQ) (p : Nat) (T : FT) (e : Nat × Nat) : (tell q p T e).1 = if T.1 ≤ pop (laidQ q e.1 e.2 ^^^ p) then T.1 else pop (laidQ q e.1 e.2 ^^^ p) := by
  have : (tell q p T e).1 = if pop (laidQ q e.1 e.2 ^^^ p) < T.1 then pop (laidQ q e.1 e.2 ^^^ p) else T.1 := by
    unfold tell
    dsimp only
    split <;> rfl
  rw [this]
  by_cases h : pop (laidQ q e.1 e.2 ^^^ p) < T.1
  · rw [if_pos h, if_neg (by omega)]
  · rw [if_neg h, if_pos (by omega)]
theorem near_eq {q : LQ} (hq : okS q) : neaEq q := by
  intro p hp
  have h1 : PN q p 17 (lvs (q 6 0) 0 (0, 0)) (neaN q p) := by
    unfold neaN
    have := skN_fold hq (p := p) (q 6 0) 0 0 0 17 (by omega) (by decide) (by decide)
    rw [show skN (ldD q none p 65535) (q 6 0) 0 0 17 = _ from this]
    exact fold_inv (P := PN q p 17) (fun pre e post b _ hb => PN_s hb e) _ [] 17 rfl ⟨Nat.le_refl _, fun e he => absurd he (List.not_mem_nil), Or.inl rfl⟩
  have h2 : PN q p 16 (allE (q 6 0)) (findQ q p).1 := by
    unfold findQ
    exact fold_inv (P := fun l (T : FT) => PN q p 16 l T.1) (fun pre e post b _ hb => by show PN q p 16 _ (tell q p b e).1; rw [tell_1]; exact PN_s hb e) _ [] (16, none, none) rfl ⟨Nat.le_refl _, fun e he => absurd he (List.not_mem_nil), Or.inl rfl⟩
  obtain ⟨a1, a2, a3⟩ := h1
  obtain ⟨c1, c2, c3⟩ := h2
  have hne : ∃ e, e ∈ lvs (q 6 0) 0 (0, 0) := by
    have key : ∀ j i x, ∃ e, e ∈ lvs j i x := by
      intro j
      induction j with
      | zero => intro i x; exact ⟨x, List.mem_singleton.mpr rfl⟩
      | succ j ih =>
        intro i x
        obtain ⟨e, he⟩ := ih (i + 1) x
        exact ⟨e, List.mem_append.mpr (Or.inl he)⟩
    exact key _ _ _
  obtain ⟨e0, he0⟩ := hne
  have b0 := a2 e0 he0
  have b1 := pop_le (laidQ q e0.1 e0.2 ^^^ p)
  rcases a3 with a3 | ⟨e, he, a3⟩
  · omega
  · have d1 := c2 e (mem_all.mp he)
    rcases c3 with c3 | ⟨x, hx, c3⟩
    · omega
    · have d2 := a2 x (mem_all.mpr hx)
      omega
/-- cheapest -/
def PC (q : LQ) (p : Nat) (l : List (Nat × Nat)) (m : Nat) : Prop := m ≤ 1000 ∧ (∀ e, e ∈ l → laidQ q e.1 e.2 = p → m ≤ costL q e.1 (q 6 0)) ∧ (m = 1000 ∨ ∃ e, e ∈ l ∧ laidQ q e.1 e.2 = p ∧ costL q e.1 (q 6 0) = m)
def PO (q : LQ) (p : Nat) (l : List (Nat × Nat)) (o : Option Nat) : Prop := match o with
  | none => ∀ e, e ∈ l → ¬ laidQ q e.1 e.2 = p
  | some m => (∀ e, e ∈ l → laidQ q e.1 e.2 = p → m ≤ costL q e.1 (q 6 0)) ∧ ∃ e, e ∈ l ∧ laidQ q e.1 e.2 = p ∧ costL q e.1 (q 6 0) = m
theorem PC_s {q : LQ} {p m : Nat} {l : List (Nat × Nat)} (h : PC q p l m) (e : Nat × Nat) : PC q p (l ++ [e]) (stC q p m e) := by
  obtain ⟨h1, h2, h3⟩ := h
  have old : (m = 1000 ∨ ∃ x, x ∈ l ++ [e] ∧ laidQ q x.1 x.2 = p ∧ costL q x.1 (q 6 0) = m) := by
    rcases h3 with h3 | ⟨x, hx, h3⟩
    · exact Or.inl h3
    · exact Or.inr ⟨x, List.mem_append.mpr (Or.inl hx), h3⟩
  unfold stC
  by_cases he : laidQ q e.1 e.2 = p
  · rw [if_pos he]
    by_cases hm : m ≤ costL q e.1 (q 6 0)
    · rw [if_pos hm]
      refine ⟨h1, fun x hx hh => ?_, old⟩
      rcases List.mem_append.mp hx with hx | hx
      · exact h2 x hx hh
      · rw [List.mem_singleton.mp hx]; exact hm
    · rw [if_neg hm]
      refine ⟨by omega, fun x hx hh => ?_, Or.inr ⟨e, List.mem_append.mpr (Or.inr (List.mem_singleton.mpr rfl)), he, rfl⟩⟩
      rcases List.mem_append.mp hx with hx | hx
      · have := h2 x hx hh; omega
      · rw [List.mem_singleton.mp hx]; exact Nat.le_refl _
  · rw [if_neg he]
    refine ⟨h1, fun x hx hh => ?_, old⟩
    rcases List.mem_append.mp hx with hx | hx
    · exact h2 x hx hh
    · rw [List.mem_singleton.mp hx] at hh; exact absurd hh he
theorem tell_miss {q : LQ} (hq : okS q) {p : Nat} (hp : p < 65536) {T : FT} {e : Nat × Nat} (h : ¬ laidQ q e.1 e.2 = p) : (tell q p T e).2 = T.2 := by
  unfold tell
  dsimp only
  rw [if_pos ((un_0 hq hp e).mpr h)]
theorem tell_hit {q : LQ} (hq : okS q) {p : Nat} (hp : p < 65536) {T : FT} {e : Nat × Nat} (h : laidQ q e.1 e.2 = p) : (tell q p T e).2 = ((match T.2.1 with
    | none => some (costL q e.1 (q 6 0))
    | some c => some (if costL q e.1 (q 6 0) < c then costL q e.1 (q 6 0) else c)),
   match T.2.2 with
    | none => some (pop e.1, e.1, e.2, 1)
    | some (k, s, o, w) => if k < pop e.1 then some (k, s, o, w) else if pop e.1 = k then some (k, s, o, w + 1) else some (pop e.1, e.1, e.2, 1)) := by
  unfold tell
  dsimp only
  rw [if_neg (fun z => (un_0 hq hp e).mp z h)]
  rfl
theorem PO_s {q : LQ} (hq : okS q) {p : Nat} (hp : p < 65536) {l : List (Nat × Nat)} {T : FT} (h : PO q p l T.2.1) (e : Nat × Nat) : PO q p (l ++ [e]) (tell q p T e).2.1 := by
  by_cases he : laidQ q e.1 e.2 = p
  · rw [tell_hit hq hp he]
    dsimp only
    cases hT : T.2.1 with
    | none =>
      rw [hT] at h
      refine ⟨fun x hx hh => ?_, e, List.mem_append.mpr (Or.inr (List.mem_singleton.mpr rfl)), he, rfl⟩
      rcases List.mem_append.mp hx with hx | hx
      · exact absurd hh (h x hx)
      · rw [List.mem_singleton.mp hx]; exact Nat.le_refl _
    | some c =>
      rw [hT] at h
      obtain ⟨h2, x0, hx0, h3, h4⟩ := h
      show PO q p (l ++ [e]) (some (if costL q e.1 (q 6 0) < c then costL q e.1 (q 6 0) else c))
      by_cases hm : costL q e.1 (q 6 0) < c
      · rw [if_pos hm]
        refine ⟨fun x hx hh => ?_, e, List.mem_append.mpr (Or.inr (List.mem_singleton.mpr rfl)), he, rfl⟩
        rcases List.mem_append.mp hx with hx | hx
        · have := h2 x hx hh; omega
        · rw [List.mem_singleton.mp hx]; exact Nat.le_refl _
      · rw [if_neg hm]
        refine ⟨fun x hx hh => ?_, x0, List.mem_append.mpr (Or.inl hx0), h3, h4⟩
        rcases List.mem_append.mp hx with hx | hx
        · exact h2 x hx hh
        · rw [List.mem_singleton.mp hx]; omega
  · rw [tell_miss hq hp he]
    cases hT : T.2.1 with
    | none =>
      rw [hT] at h
      intro x hx
      rcases List.mem_append.mp hx with hx | hx
      · exact h x hx
      · rw [List.mem_singleton.mp hx]; exact he
    | some c =>
      rw [hT] at h
      obtain ⟨h2, x0, hx0, h3, h4⟩ := h
      refine ⟨fun x hx hh => ?_, x0, List.mem_append.mpr (Or.inl hx0), h3, h4⟩
      rcases List.mem_append.mp hx with hx | hx
      · exact h2 x hx hh
      · rw [List.mem_singleton.mp hx] at hh; exact absurd hh he
theorem che_eq {q : LQ} (hq : okS q) : cheEq q := by
  intro p hp
  have h8 := hq.1
  have h1 : PC q p (lvs (q 6 0) 0 (0, 0)) (cheC q p) := by
    unfold cheC
    have := skC_fold (q := q) (p := p) (q 6 0) 0 0 0 1000 (by omega) (by decide) (by decide) (sb_zero p)
    rw [show skC (ldD q none p p) (q 6 0) 0 0 0 1000 = _ from this]
    exact fold_inv (P := PC q p) (fun pre e post b _ hb => PC_s hb e) _ [] 1000 rfl ⟨Nat.le_refl _, fun e he => absurd he (List.not_mem_nil), Or.inl rfl⟩
  have h2 : PO q p (allE (q 6 0)) (findQ q p).2.1 := by
    unfold findQ
    exact fold_inv (P := fun l (T : FT) => PO q p l T.2.1) (fun pre e post b _ hb => PO_s hq hp hb e) _ [] (16, none, none) rfl (fun e he => absurd he (List.not_mem_nil))
  obtain ⟨a1, a2, a3⟩ := h1
  cases hT : (findQ q p).2.1 with
  | none =>
    rw [hT] at h2
    rcases a3 with a3 | ⟨e, he, a3, -⟩
    · rw [if_pos a3]; rfl
    · exact absurd a3 (h2 e (mem_all.mp he))
  | some c =>
    rw [hT] at h2
    obtain ⟨c2, x, hx, c3, c4⟩ := h2
    have hc := cost_le hq x.1 (q 6 0) (Nat.le_refl _)
    have d := a2 x (mem_all.mpr hx) c3
    rcases a3 with a3 | ⟨e, he, a3, a4⟩
    · omega
    · have d2 := c2 e (mem_all.mp he) a3
      have hc2 := cost_le hq e.1 (q 6 0) (Nat.le_refl _)
      rw [if_neg (by omega)]
      show nI _ = nI c
      rw [show cheC q p = c by omega]
end
section
/-! fewest and can: what both find -/
abbrev lexle (a b : Nat × Nat) : Prop := a.1 < b.1 ∨ (a.1 = b.1 ∧ a.2 ≤ b.2)
def hb (q : LQ) (p k : Nat) (e : Nat × Nat) : Bool := decide (laidQ q e.1 e.2 = p) && decide (pop e.1 = k)
def G2 (q : LQ) (p : Nat) (l : List (Nat × Nat)) (F : FF) : Prop := ((F.2.1, F.2.2.1) ∈ l ∧ laidQ q F.2.1 F.2.2.1 = p ∧ pop F.2.1 = F.1) ∧ (∀ e, e ∈ l → laidQ q e.1 e.2 = p → F.1 ≤ pop e.1 ∧ (pop e.1 = F.1 → lexle (F.2.1, F.2.2.1) e)) ∧ F.2.2.2 = l.countP (hb q p F.1)
theorem cnt_end {q : LQ} {p k : Nat} {l : List (Nat × Nat)} {e : Nat × Nat} : (l ++ [e]).countP (hb q p k) = l.countP (hb q p k) + oneI (hb q p k e) := by
  rw [List.countP_append, List.countP_cons, List.countP_nil]
  cases hb q p k e <;> rfl
theorem G2_miss {q : LQ} {p : Nat} {l : List (Nat × Nat)} {F : FF} (h : G2 q p l F) {e : Nat × Nat} (he : ¬ laidQ q e.1 e.2 = p) : G2 q p (l ++ [e]) F := by
  obtain ⟨⟨h1, h2, h3⟩, h4, h5⟩ := h
  refine ⟨⟨List.mem_append.mpr (Or.inl h1), h2, h3⟩, fun x hx hh => ?_, ?_⟩
  · rcases List.mem_append.mp hx with hx | hx
    · exact h4 x hx hh
    · rw [List.mem_singleton.mp hx] at hh; exact absurd hh he
  · rw [cnt_end, h5, show hb q p F.1 e = false from by unfold hb; rw [decide_eq_false he]; rfl]; rfl
theorem G2_more {q : LQ} {p : Nat} {l : List (Nat × Nat)} {F : FF} (h : G2 q p l F) {e : Nat × Nat} (hk : F.1 < pop e.1) : G2 q p (l ++ [e]) F := by
  obtain ⟨⟨h1, h2, h3⟩, h4, h5⟩ := h
  refine ⟨⟨List.mem_append.mpr (Or.inl h1), h2, h3⟩, fun x hx hh => ?_, ?_⟩
  · rcases List.mem_append.mp hx with hx | hx
    · exact h4 x hx hh
    · rw [List.mem_singleton.mp hx]
      exact ⟨by omega, fun z => by omega⟩
  · rw [cnt_end, h5, show hb q p F.1 e = false from by unfold hb; rw [decide_eq_false (show ¬ pop e.1 = F.1 by omega), Bool.and_false]]; rfl
theorem G2_first {q : LQ} {p : Nat} {l : List (Nat × Nat)} {e : Nat × Nat} (he : laidQ q e.1 e.2 = p) (hl : ∀ x, x ∈ l → laidQ q x.1 x.2 = p → pop e.1 < pop x.1) : G2 q p (l ++ [e]) (pop e.1, e.1, e.2, 1) := by
  refine ⟨⟨List.mem_append.mpr (Or.inr (List.mem_singleton.mpr rfl)), he, rfl⟩, fun x hx hh => ?_, ?_⟩
  · rcases List.mem_append.mp hx with hx | hx
    · have := hl x hx hh
      exact ⟨by show pop e.1 ≤ _; omega, fun z => by have z : pop x.1 = pop e.1 := z; omega⟩
    · rw [List.mem_singleton.mp hx]
      exact ⟨Nat.le_refl _, fun _ => Or.inr ⟨rfl, Nat.le_refl _⟩⟩
  · rw [cnt_end]
    have h0 : l.countP (hb q p (pop e.1)) = 0 := by
      rw [List.countP_eq_zero]
      intro x hx z
      unfold hb at z
      rw [Bool.and_eq_true, decide_eq_true_eq, decide_eq_true_eq] at z
      have := hl x hx z.1
      omega
    show 1 = l.countP (hb q p (pop e.1)) + oneI (hb q p (pop e.1) e)
    rw [h0, show hb q p (pop e.1) e = true from by unfold hb; rw [decide_eq_true he, decide_eq_true rfl]; rfl]
    rfl
theorem G2_same {q : LQ} {p : Nat} {l : List (Nat × Nat)} {F : FF} (h : G2 q p l F) {e : Nat × Nat} (he : laidQ q e.1 e.2 = p) (hk : pop e.1 = F.1) {y : Nat × Nat} (hy : y = e ∨ y = (F.2.1, F.2.2.1)) (hy1 : lexle y e) (hy2 : lexle y (F.2.1, F.2.2.1)) : G2 q p (l ++ [e]) (F.1, y.1, y.2, F.2.2.2 + 1) := by
  obtain ⟨⟨h1, h2, h3⟩, h4, h5⟩ := h
  refine ⟨?_, fun x hx hh => ?_, ?_⟩
  · rcases hy with rfl | rfl
    · exact ⟨List.mem_append.mpr (Or.inr (List.mem_singleton.mpr rfl)), he, hk⟩
    · exact ⟨List.mem_append.mpr (Or.inl h1), h2, h3⟩
  · rcases List.mem_append.mp hx with hx | hx
    · obtain ⟨g1, g2⟩ := h4 x hx hh
      refine ⟨g1, fun z => ?_⟩
      have g3 := g2 z
      show lexle y x
      unfold lexle at *
      dsimp only at hy2 g3
      omega
    · rw [List.mem_singleton.mp hx]
      exact ⟨by show F.1 ≤ _; omega, fun _ => hy1⟩
  · rw [cnt_end]
    show F.2.2.2 + 1 = l.countP (hb q p F.1) + _
    rw [h5, show hb q p F.1 e = true from by unfold hb; rw [decide_eq_true he, decide_eq_true hk]; rfl]
    rfl
def PF (q : LQ) (p : Nat) (l : List (Nat × Nat)) (F : FF) : Prop := (F = (9, 0, 0, 0) ∧ ∀ e, e ∈ l → ¬ laidQ q e.1 e.2 = p) ∨ G2 q p l F
theorem no_end {q : LQ} {p : Nat} {l : List (Nat × Nat)} (h : ∀ e, e ∈ l → ¬ laidQ q e.1 e.2 = p) {e : Nat × Nat} (he : ¬ laidQ q e.1 e.2 = p) : ∀ x, x ∈ l ++ [e] → ¬ laidQ q x.1 x.2 = p := by
  intro x hx
  rcases List.mem_append.mp hx with hx | hx
  · exact h x hx
  · rw [List.mem_singleton.mp hx]; exact he
theorem PF_s {q : LQ} {p : Nat} {l : List (Nat × Nat)} {F : FF} (h : PF q p l F) {e : Nat × Nat} (h8 : pop e.1 ≤ 8) : PF q p (l ++ [e]) (stF q p F e) := by
  unfold stF
  by_cases he : laidQ q e.1 e.2 = p
  · rw [if_pos he]
    rcases h with ⟨rfl, h⟩ | h
    · rw [if_neg (show ¬ ((9, 0, 0, 0) : FF).1 < pop e.1 from fun z => by have z : 9 < pop e.1 := z; omega)]
      refine Or.inr ?_
      have : noteF (9, 0, 0, 0) e.1 e.2 = (pop e.1, e.1, e.2, 1) := by
        unfold noteF
        dsimp only
        rw [if_pos (Or.inl (show pop e.1 < 9 by omega)), if_pos (Or.inl (show pop e.1 < 9 by omega)), if_pos (show pop e.1 < 9 by omega)]
      rw [this]
      exact G2_first he (fun x hx hh => absurd hh (h x hx))
    · refine Or.inr ?_
      by_cases hk : F.1 < pop e.1
      · rw [if_pos hk]
        exact G2_more h hk
      · rw [if_neg hk]
        by_cases hk2 : pop e.1 < F.1
        · have : noteF F e.1 e.2 = (pop e.1, e.1, e.2, 1) := by
            unfold noteF
            rw [if_pos (Or.inl hk2), if_pos (Or.inl hk2), if_pos hk2]
          rw [this]
          exact G2_first he (fun x hx hh => by have := (h.2.1 x hx hh).1; omega)
        · have hk3 : pop e.1 = F.1 := by omega
          have : noteF F e.1 e.2 = (F.1, (if e.1 < F.2.1 ∨ (e.1 = F.2.1 ∧ e.2 < F.2.2.1) then e else (F.2.1, F.2.2.1)).1, (if e.1 < F.2.1 ∨ (e.1 = F.2.1 ∧ e.2 < F.2.2.1) then e else (F.2.1, F.2.2.1)).2, F.2.2.2 + 1) := by
            unfold noteF
            rw [hk3, if_neg (show ¬ F.1 < F.1 by omega)]
            by_cases c : e.1 < F.2.1 ∨ (e.1 = F.2.1 ∧ e.2 < F.2.2.1)
            · rw [if_pos c, if_pos (Or.inr c), if_pos (Or.inr c)]
            · rw [if_neg c, if_neg (fun z => c (z.resolve_left (by omega))), if_neg (fun z => c (z.resolve_left (by omega)))]
          rw [this]
          by_cases c : e.1 < F.2.1 ∨ (e.1 = F.2.1 ∧ e.2 < F.2.2.1)
          · rw [if_pos c]
            exact G2_same h he hk3 (Or.inl rfl) (Or.inr ⟨rfl, Nat.le_refl _⟩) (by unfold lexle; dsimp only; omega)
          · rw [if_neg c]
            exact G2_same h he hk3 (Or.inr rfl) (by unfold lexle; dsimp only; omega) (Or.inr ⟨rfl, Nat.le_refl _⟩)
  · rw [if_neg he]
    rcases h with ⟨rfl, h⟩ | h
    · exact Or.inl ⟨rfl, no_end h he⟩
    · exact Or.inr (G2_miss h he)
def PFo (q : LQ) (p : Nat) (l : List (Nat × Nat)) (o : Option FF) : Prop := match o with
  | none => ∀ e, e ∈ l → ¬ laidQ q e.1 e.2 = p
  | some F => G2 q p l F
theorem PFo_s {q : LQ} (hq : okS q) {p : Nat} (hp : p < 65536) {l : List (Nat × Nat)} {T : FT} (h : PFo q p l T.2.2) {e : Nat × Nat} (hl : ∀ x, x ∈ l → lexle x e) : PFo q p (l ++ [e]) (tell q p T e).2.2 := by
  by_cases he : laidQ q e.1 e.2 = p
  · rw [tell_hit hq hp he]
    dsimp only
    cases hT : T.2.2 with
    | none =>
      rw [hT] at h
      exact G2_first he (fun x hx hh => absurd hh (h x hx))
    | some F =>
      obtain ⟨k, s, o, w⟩ := F
      rw [hT] at h
      have h : G2 q p l (k, s, o, w) := h
      show PFo q p (l ++ [e]) (if k < pop e.1 then some (k, s, o, w) else if pop e.1 = k then some (k, s, o, w + 1) else some (pop e.1, e.1, e.2, 1))
      by_cases hk : k < pop e.1
      · rw [if_pos hk]
        exact G2_more h hk
      · rw [if_neg hk]
        by_cases hk2 : pop e.1 = k
        · rw [if_pos hk2]
          exact G2_same (y := (s, o)) h he hk2 (Or.inr rfl) (hl _ h.1.1) (Or.inr ⟨rfl, Nat.le_refl _⟩)
        · rw [if_neg hk2]
          exact G2_first he (fun x hx hh => by have : k ≤ pop x.1 := (h.2.1 x hx hh).1; omega)
  · rw [tell_miss hq hp he]
    cases hT : T.2.2 with
    | none =>
      rw [hT] at h
      exact no_end h he
    | some F =>
      rw [hT] at h
      exact G2_miss h he
theorem row_mem {s k : Nat} {e : Nat × Nat} (h : e ∈ rowE s k) : e.1 = s ∧ e.2 < k := by
  unfold rowE at h
  obtain ⟨o, ho, rfl⟩ := List.mem_map.mp h
  exact ⟨rfl, List.mem_range.mp (List.mem_filter.mp ho).1⟩
theorem pre_mem : ∀ k e, e ∈ preE k → e.1 < k
  | 0, e, h => absurd h (List.not_mem_nil)
  | k + 1, e, h => by
    rw [preE_s] at h
    rcases List.mem_append.mp h with h | h
    · have := pre_mem k e h; omega
    · have := (row_mem h).1; omega
theorem row_sorted (s : Nat) : ∀ k, (rowE s k).Pairwise lexle
  | 0 => List.Pairwise.nil
  | k + 1 => by
    cases h : subB k s with
    | true =>
      rw [rowE_s h, List.pairwise_append]
      refine ⟨row_sorted s k, List.pairwise_singleton _ _, fun a ha b hbb => ?_⟩
      rw [List.mem_singleton.mp hbb]
      have := row_mem ha
      exact Or.inr ⟨this.1, by show a.2 ≤ k; omega⟩
    | false => rw [rowE_n h]; exact row_sorted s k
theorem pre_sorted : ∀ k, (preE k).Pairwise lexle
  | 0 => List.Pairwise.nil
  | k + 1 => by
    rw [preE_s, List.pairwise_append]
    refine ⟨pre_sorted k, row_sorted k _, fun a ha b hbb => Or.inl ?_⟩
    have h1 := pre_mem k a ha
    have h2 := (row_mem hbb).1
    omega
theorem few_eq {q : LQ} (hq : okS q) : fewEq q := by
  intro p hp k hk
  have h8 := hq.1
  have p8 : ∀ e, e ∈ allE (q 6 0) → pop e.1 ≤ 8 := by
    intro e he
    have h1 : e.1 < 2 ^ 8 := Nat.lt_of_lt_of_le (pre_mem _ e he) (Nat.pow_le_pow_right (by decide) h8)
    have h2 := popL_ge h1 8
    have h3 := popL_le e.1 8
    show popL e.1 16 ≤ 8
    rw [show (16 : Nat) = 8 + 8 from rfl, h2]
    exact h3
  have h1 : PF q p (lvs (q 6 0) 0 (0, 0)) (fewF q p) := by
    unfold fewF
    have := skF_fold (q := q) (p := p) (q 6 0) 0 0 0 (9, 0, 0, 0) (by omega) (by decide) (by decide) (sb_zero p)
    rw [show skF (ldD q none p p) (q 6 0) 0 0 0 0 (9, 0, 0, 0) = _ from this]
    exact fold_inv (P := PF q p) (fun pre e post b hL hbb => PF_s hbb (p8 e (mem_all.mp (by rw [hL]; exact List.mem_append.mpr (Or.inr (List.mem_cons_self)))))) _ [] (9, 0, 0, 0) rfl (Or.inl ⟨rfl, fun e he => absurd he (List.not_mem_nil)⟩)
  have h2 : PFo q p (allE (q 6 0)) (findQ q p).2.2 := by
    unfold findQ
    refine fold_inv (P := fun l (T : FT) => PFo q p l T.2.2) (fun pre e post b hL hbb => PFo_s hq hp hbb (fun x hx => ?_)) _ [] (16, none, none) rfl (fun e he => absurd he (List.not_mem_nil))
    have hs := pre_sorted (2 ^ q 6 0)
    rw [show preE (2 ^ q 6 0) = pre ++ e :: post from hL, List.pairwise_append] at hs
    exact hs.2.2 x hx e (List.mem_cons_self)
  generalize fewF q p = F at h1
  cases hT : (findQ q p).2.2 with
  | none =>
    rw [hT] at h2
    rcases h1 with ⟨rfl, -⟩ | h1
    · rfl
    · exact absurd h1.1.2.1 (h2 _ (mem_all.mp h1.1.1))
  | some F' =>
    rw [hT] at h2
    have h2 : G2 q p (allE (q 6 0)) F' := h2
    rcases h1 with ⟨-, h1⟩ | h1
    · exact absurd h2.1.2.1 (h1 _ (mem_all.mpr h2.1.1))
    · have hpos : 0 < F.2.2.2 := by
        rw [h1.2.2, List.countP_pos_iff]
        exact ⟨_, h1.1.1, by unfold hb; rw [decide_eq_true h1.1.2.1, decide_eq_true h1.1.2.2]; rfl⟩
      obtain ⟨u1, u2⟩ := h1.2.1 _ (mem_all.mpr h2.1.1) h2.1.2.1
      obtain ⟨v1, v2⟩ := h2.2.1 _ (mem_all.mp h1.1.1) h1.1.2.1
      have e1 : F.1 = F'.1 := by
        have a := h1.1.2.2
        have b := h2.1.2.2
        dsimp only at u1 v1
        omega
      have w1 := u2 (by have b := h2.1.2.2; dsimp only; omega)
      have w2 := v2 (by have b := h1.1.2.2; dsimp only; omega)
      unfold lexle at w1 w2
      dsimp only at w1 w2
      have e2 : F.2.1 = F'.2.1 := by omega
      have e3 : F.2.2.1 = F'.2.2.1 := by omega
      have e4 : F.2.2.2 = F'.2.2.2 := by rw [h1.2.2, h2.2.2, e1, cnt_all]
      have e5 : F = F' := Prod.ext e1 (Prod.ext e2 (Prod.ext e3 e4))
      rw [if_pos hpos, e5]
end
section
/-! can: what both find -/
/-- what is shown can still become the picture -/
def Cm (D : LD) : Nat → Nat → Nat → Prop
  | 0, _, sh => sh = D.2.2.2.2
  | j + 1, i, sh => Cm D j (i + 1) sh ∨ (∃ x, D.1 i = some x ∧ Cm D j (i + 1) (sh ||| x)) ∨ ∃ x, D.2.1 i = some x ∧ Cm D j (i + 1) (sh ||| x)
theorem or_swap (a b c : Nat) : a ||| b ||| c = a ||| c ||| b := by rw [Nat.or_assoc, Nat.or_comm b c, ← Nat.or_assoc]
theorem Cm_up {D : LD} {y : Nat} (hy : sb y D.2.2.2.2) : ∀ j i sh, Cm D j i sh → Cm D j i (sh ||| y) := by
  intro j
  induction j with
  | zero =>
    intro i sh h
    have h : sh = D.2.2.2.2 := h
    show sh ||| y = D.2.2.2.2
    rw [h, sb_or_eq hy]
  | succ j ih =>
    intro i sh h
    rcases h with h | ⟨x, hx, h⟩ | ⟨x, hx, h⟩
    · exact Or.inl (ih _ _ h)
    · exact Or.inr (Or.inl ⟨x, hx, by rw [or_swap]; exact ih _ _ h⟩)
    · exact Or.inr (Or.inr ⟨x, hx, by rw [or_swap]; exact ih _ _ h⟩)
theorem lay_some {x al y : Nat} (h : layO x al = some y) : y = x ∧ sb x al := by
  unfold layO at h
  split at h
  · next e => cases h; exact ⟨rfl, sb_0.mp e⟩
  · cases h
theorem str_some {q : LQ} {x : Option Nat} {al i y : Nat} (h : strO q x al i = some y) : x ≠ some i ∧ y = onQ q i ∧ sb (onQ q i) al := by
  unfold strO at h
  split at h
  · cases h
  · next e => exact ⟨e, lay_some h⟩
theorem tur_some {q : LQ} {x : Option Nat} {al i y : Nat} (h : turO q x al i = some y) : x ≠ some i ∧ y = mirN (onQ q i) ∧ sb (mirN (onQ q i)) al := by
  unfold turO at h
  split at h
  · cases h
  · next e => exact ⟨e, lay_some h⟩
/-- as a leaf -/
theorem Cm_lvs {q : LQ} {x : Option Nat} {p : Nat} : ∀ j i set ov, i + j = q 6 0 → set < 2 ^ i → ov < 2 ^ i → (∀ k, k < i → x = some k → set.testBit k = false) → sb (laidL q set ov i) p → (Cm (ldD q x p p) j i (laidL q set ov i) ↔ ∃ e, e ∈ lvs j i (set, ov) ∧ (∀ k, k < q 6 0 → x = some k → e.1.testBit k = false) ∧ laidQ q e.1 e.2 = p) := by
  intro j
  induction j with
  | zero =>
    intro i set ov hij hs ho hx hp
    obtain rfl : i = q 6 0 := by omega
    constructor
    · intro h
      exact ⟨(set, ov), List.mem_singleton.mpr rfl, hx, h⟩
    · rintro ⟨e, he, h1, h2⟩
      rw [List.mem_singleton.mp he] at h2
      exact h2
  | succ j ih =>
    intro i set ov hij hs ho hx hp
    have hx0 : ∀ k, k < i + 1 → x = some k → set.testBit k = false := by
      intro k hk e
      rcases Nat.lt_or_ge k i with h | h
      · exact hx k h e
      · rw [show k = i by omega]; exact bit_no hs
    have hx1 : x ≠ some i → ∀ k, k < i + 1 → x = some k → (set ||| 2 ^ i).testBit k = false := by
      intro hne k hk e
      rcases Nat.lt_or_ge k i with h | h
      · rw [bit_same h]; exact hx k h e
      · exact absurd (by rw [e, show k = i by omega]) hne
    have i0 := ih (i + 1) set ov (by omega) (up1 hs) (up1 ho) hx0 (by rw [laid_0 hs]; exact hp)
    rw [laid_0 hs] at i0
    constructor
    · intro h
      rcases h with h | ⟨y, hy, h⟩ | ⟨y, hy, h⟩
      · obtain ⟨e, he, h1, h2⟩ := i0.mp h
        exact ⟨e, List.mem_append.mpr (Or.inl he), h1, h2⟩
      · obtain ⟨g1, rfl, g3⟩ := str_some hy
        have i1 := ih (i + 1) (set ||| 2 ^ i) ov (by omega) (bitS_lt hs) (up1 ho) (hx1 g1) (by rw [laid_1 ho]; exact sb_or hp g3)
        rw [laid_1 ho] at i1
        obtain ⟨e, he, h1, h2⟩ := i1.mp h
        exact ⟨e, List.mem_append.mpr (Or.inr (List.mem_append.mpr (Or.inl he))), h1, h2⟩
      · obtain ⟨g1, rfl, g3⟩ := tur_some hy
        have i2 := ih (i + 1) (set ||| 2 ^ i) (ov ||| 2 ^ i) (by omega) (bitS_lt hs) (bitS_lt ho) (hx1 g1) (by rw [laid_2]; exact sb_or hp g3)
        rw [laid_2] at i2
        obtain ⟨e, he, h1, h2⟩ := i2.mp h
        exact ⟨e, List.mem_append.mpr (Or.inr (List.mem_append.mpr (Or.inr he))), h1, h2⟩
    · rintro ⟨e, he, h1, h2⟩
      rcases List.mem_append.mp he with he | he
      · exact Or.inl (i0.mpr ⟨e, he, h1, h2⟩)
      · rcases List.mem_append.mp he with he | he
        · have hb : e.1.testBit i = true := by rw [(lvs_same j (i + 1) _ e he i (by omega)).1]; exact bit_at set i
          have hne : x ≠ some i := fun z => by rw [h1 i (by omega) z] at hb; exact absurd hb (by decide)
          have hf : sb (onQ q i) p := by
            have : sb (onQ q i) (laidL q e.1 e.2 (i + 1)) := by rw [lvs_laid he, laid_1 ho]; exact sb_r _ _
            rw [← h2]
            exact sb_trans this (laid_up (by omega))
          have i1 := ih (i + 1) (set ||| 2 ^ i) ov (by omega) (bitS_lt hs) (up1 ho) (hx1 hne) (by rw [laid_1 ho]; exact sb_or hp hf)
          rw [laid_1 ho] at i1
          exact Or.inr (Or.inl ⟨onQ q i, by show strO q x p i = _; unfold strO; rw [if_neg hne, lay_y hf], i1.mpr ⟨e, he, h1, h2⟩⟩)
        · have hb : e.1.testBit i = true := by rw [(lvs_same j (i + 1) _ e he i (by omega)).1]; exact bit_at set i
          have hne : x ≠ some i := fun z => by rw [h1 i (by omega) z] at hb; exact absurd hb (by decide)
          have hf : sb (mirN (onQ q i)) p := by
            have : sb (mirN (onQ q i)) (laidL q e.1 e.2 (i + 1)) := by rw [lvs_laid he, laid_2]; exact sb_r _ _
            rw [← h2]
            exact sb_trans this (laid_up (by omega))
          have i2 := ih (i + 1) (set ||| 2 ^ i) (ov ||| 2 ^ i) (by omega) (bitS_lt hs) (bitS_lt ho) (hx1 hne) (by rw [laid_2]; exact sb_or hp hf)
          rw [laid_2] at i2
          exact Or.inr (Or.inr ⟨mirN (onQ q i), by show turO q x p i = _; unfold turO; rw [if_neg hne, lay_y hf], i2.mpr ⟨e, he, h1, h2⟩⟩)
theorem Cm_reach {q : LQ} {x : Option Nat} {p : Nat} : ∀ j i sh, i + j = q 6 0 → Cm (ldD q x p p) j i sh → sb p (sh ||| (ldD q x p p).2.2.2.1 i) := by
  intro j
  induction j with
  | zero =>
    intro i sh hij h
    have h : sh = p := h
    rw [h]; exact sb_l _ _
  | succ j ih =>
    intro i sh hij h
    have eR : (ldD q x p p).2.2.2.1 i = (ldD q x p p).2.2.2.1 (i + 1) ||| dk (strO q x p i) ||| dk (turO q x p i) := by
      show rchL _ _ _ (q 6 0 - i) = rchL _ _ _ (q 6 0 - (i + 1)) ||| _ ||| _
      rw [show q 6 0 - i = (q 6 0 - (i + 1)) + 1 by omega]
      show rchL _ _ _ (q 6 0 - (i + 1)) ||| dk (strO q x p (q 6 0 - (q 6 0 - (i + 1) + 1))) ||| dk (turO q x p (q 6 0 - (q 6 0 - (i + 1) + 1))) = _
      rw [show q 6 0 - (q 6 0 - (i + 1) + 1) = i by omega]
    have hR : sb ((ldD q x p p).2.2.2.1 (i + 1)) (sh ||| (ldD q x p p).2.2.2.1 i) := by rw [eR]; exact sb_trans (sb_trans (sb_l _ _) (sb_l _ _)) (sb_r _ _)
    rcases h with h | ⟨y, hy, h⟩ | ⟨y, hy, h⟩
    · exact sb_trans (ih _ _ (by omega) h) (sb_or (sb_l _ _) hR)
    · refine sb_trans (ih _ _ (by omega) h) (sb_or (sb_or (sb_l _ _) ?_) hR)
      rw [eR, show strO q x p i = some y from hy]
      exact sb_trans (sb_trans (sb_r _ _) (sb_l _ _)) (sb_r _ _)
    · refine sb_trans (ih _ _ (by omega) h) (sb_or (sb_or (sb_l _ _) ?_) hR)
      rw [eR, show turO q x p i = some y from hy]
      exact sb_trans (sb_r _ _) (sb_r _ _)
theorem shB_Cm {q : LQ} {x : Option Nat} {p : Nat} : ∀ j i sh, i + j = q 6 0 → sb sh p → (shB (ldD q x p p) j i sh = true ↔ Cm (ldD q x p p) j i sh) := by
  intro j
  induction j with
  | zero =>
    intro i sh hij hp
    obtain rfl : i = q 6 0 := by omega
    show (!outB (ldD q x p p) (q 6 0) sh) = true ↔ sh = p
    rw [Bool.not_eq_true', ← Bool.not_eq_true, out_iff, reach_end, Nat.or_zero]
    constructor
    · intro h; exact sb_eq hp (Classical.byContradiction h)
    · intro h z; exact z (by rw [h]; exact sb_refl p)
  | succ j ih =>
    intro i sh hij hp
    unfold shB
    by_cases hO : outB (ldD q x p p) i sh = true
    · rw [if_pos hO]
      constructor
      · intro h; cases h
      · intro h; exact absurd (Cm_reach _ _ _ hij h) (out_iff.mp hO)
    rw [if_neg hO]
    by_cases hn : (ldD q x p p).1 i = none ∧ (ldD q x p p).2.1 i = none
    · rw [if_pos hn, ih (i + 1) sh (by omega) hp]
      constructor
      · intro h; exact Or.inl h
      · intro h
        rcases h with h | ⟨y, hy, -⟩ | ⟨y, hy, -⟩
        · exact h
        · rw [hn.1] at hy; cases hy
        · rw [hn.2] at hy; cases hy
    rw [if_neg hn, Bool.or_eq_true]
    have a1 : onO ((ldD q x p p).1 i) false (fun y => shB (ldD q x p p) j (i + 1) (sh ||| y)) = true ↔ ∃ y, (ldD q x p p).1 i = some y ∧ Cm (ldD q x p p) j (i + 1) (sh ||| y) := by
      cases hf : (ldD q x p p).1 i with
      | none =>
        constructor
        · intro h; cases h
        · rintro ⟨y, hy, -⟩; cases hy
      | some y =>
        have := ih (i + 1) (sh ||| y) (by omega) (sb_or hp (by obtain ⟨-, rfl, g⟩ := str_some hf; exact g))
        constructor
        · intro h; exact ⟨y, rfl, this.mp h⟩
        · rintro ⟨z, hz, h⟩; cases hz; exact this.mpr h
    have a2 : onO ((ldD q x p p).2.1 i) false (fun y => shB (ldD q x p p) j (i + 1) (sh ||| y)) = true ↔ ∃ y, (ldD q x p p).2.1 i = some y ∧ Cm (ldD q x p p) j (i + 1) (sh ||| y) := by
      cases hf : (ldD q x p p).2.1 i with
      | none =>
        constructor
        · intro h; cases h
        · rintro ⟨y, hy, -⟩; cases hy
      | some y =>
        have := ih (i + 1) (sh ||| y) (by omega) (sb_or hp (by obtain ⟨-, rfl, g⟩ := tur_some hf; exact g))
        constructor
        · intro h; exact ⟨y, rfl, this.mp h⟩
        · rintro ⟨z, hz, h⟩; cases hz; exact this.mpr h
    rw [a1, a2]
    constructor
    · intro h; exact Or.inr h
    · intro h
      rcases h with h | h
      · cases hf : (ldD q x p p).1 i with
        | some y => exact Or.inl ⟨y, rfl, Cm_up (show sb y p by obtain ⟨-, rfl, g⟩ := str_some hf; exact g) _ _ _ h⟩
        | none =>
          cases hg : (ldD q x p p).2.1 i with
          | some y => exact Or.inr ⟨y, rfl, Cm_up (show sb y p by obtain ⟨-, rfl, g⟩ := tur_some hg; exact g) _ _ _ h⟩
          | none => exact absurd ⟨hf, hg⟩ hn
      · exact h
theorem okx_iff {q : LQ} {x : Option Nat} (hx : x = none ∨ ∃ i, i < q 6 0 ∧ x = some i) (s : Nat) : okx x s = true ↔ ∀ k, k < q 6 0 → x = some k → s.testBit k = false := by
  rcases hx with rfl | ⟨i, hi, rfl⟩
  · exact ⟨fun _ k _ z => (by cases z), fun _ => rfl⟩
  · show (!s.testBit i) = true ↔ _
    rw [Bool.not_eq_true']
    constructor
    · intro h k _ e; cases e; exact h
    · intro h; exact h i hi rfl
theorem can_eq (q : LQ) : canEq q := by
  intro x hx
  have key : ∀ p, shB (ldD q x p p) (q 6 0) 0 0 = (allE (q 6 0)).any (hitE q x p) := by
    intro p
    rw [Bool.eq_iff_iff, shB_Cm (q 6 0) 0 0 (by omega) (sb_zero p)]
    have := Cm_lvs (q := q) (x := x) (p := p) (q 6 0) 0 0 0 (by omega) (by decide) (by decide) (fun k hk => absurd hk (Nat.not_lt_zero k)) (sb_zero p)
    rw [show Cm (ldD q x p p) (q 6 0) 0 0 ↔ _ from this, List.any_eq_true]
    constructor
    · rintro ⟨e, he, h1, h2⟩
      exact ⟨e, mem_all.mp he, by unfold hitE; rw [(okx_iff hx e.1).mpr h1, h2]; simp⟩
    · rintro ⟨e, he, h⟩
      unfold hitE at h
      rw [Bool.and_eq_true, okx_iff hx] at h
      exact ⟨e, mem_all.mpr he, h.1, by simpa using h.2⟩
  have all : ∀ k, canC q x k = canN q x k := by
    intro k
    induction k with
    | zero => rfl
    | succ k ih =>
      show (if shB (ldD q x (q 5 k) (q 5 k)) (q 6 0) 0 0 = true then canC q x k ||| 2 ^ k else canC q x k) = canN q x k ||| (if (allE (q 6 0)).any (hitE q x (q 5 k)) then 2 ^ k else 0)
      rw [key, ih]
      split
      · rfl
      · rw [Nat.or_zero]
  exact all _
end
section
/-! the class's Tour: small methods -/
def eR (u : Nat → Nat → Int32) : xH := [.inr (3, [.ref 1, .ref 2, .ref 3]), .inl (4, u 0), .inl (256, u 1), .inl (4096, u 2)]
def eU (u : Nat → Nat → Int32) (a : Nat → Nat → Int32) (s : Nat → Int32) : xH := [.inr (3, [.ref 1, .ref 2, .ref 3]), .inl (4, u 0), .inl (256, u 1), .inl (4096, u 2),
  .inr (0, [.ref 5, .ref 6, .ref 7, .ref 8, .ref 9, .ref 10, .int (s 0), .int (s 1), .int (s 2)]), .inl (8, a 0), .inl (8, a 1), .inl (8, a 2), .inl (8, a 3), .inl (8, a 4), .inl (6, a 5)]
abbrev pR : List Nat := [0, 1, 2, 3]
abbrev pUl : List Nat := [4, 5, 6, 7, 8, 9, 10]
abbrev pU : List Nat := [0, 1, 2, 3, 4, 5, 6, 7, 8, 9, 10]
theorem xputR (u u' : Nat → Nat → Int32) : xput pR pR (eR u') (eR u) = eR u' := rfl
theorem xputUR (u u' a : Nat → Nat → Int32) (s : Nat → Int32) : xput pR pR (eR u') (eU u a s) = eU u' a s := rfl
theorem xputU (u u' a a' : Nat → Nat → Int32) (s s' : Nat → Int32) : xput pU pU (eU u' a' s') (eU u a s) = eU u' a' s' := rfl
theorem or_add {m i : Nat} (h : m < 2 ^ i) : m ||| 2 ^ i = 2 ^ i + m := by
  have := Nat.two_pow_add_eq_or_of_lt h 1
  rw [Nat.mul_one] at this
  rw [Nat.or_comm, ← this]
theorem t_layAll (d : Nat) {q : LQ} {a : Nat → Nat → Int32} {s : Nat → Int32} (hr : relS q a s) (u : Nat → Nat → Int32) : xCt xMs (d + 3) nX4_layAll [.ref 0, .ref 4, .int (nI (q 6 0))] (eU u a s) (fun v w => v = none ∧ ∃ u1, (∀ m, m < 2 ^ q 6 0 → u1 m = nI (laidQ q m 0)) ∧ w = eU (aU u 1 u1) a s) := by
  have h8 := hr.1.1
  have hl := lt256 hr.1
  refine xV (M := mX4_layAll) rfl rfl rfl rfl rfl pX4_layAll rfl (fun G g1 g2 g3 => ?_)
  refine xwp_go g1 [9] 100 _ _ _ _ ?_
  refine And.intro (vp_in_nI (n := 0) (by decide) (by decide)) ?_
  refine up (k := q 6 0) (P := fun i => ∀ x u1 z4 z5 z6, x = nI i → (∀ m, m < 2 ^ i → u1 m = nI (laidL q m 0 i)) → G 9 [some (.ref 0), some (.ref 4), some (.int (nI (q 6 0))), some (.int x), z4, z5, z6] [] (eU (aU u 1 u1) a s)) ?_ ?_ 0 (Nat.zero_le _) _ (upd (u 1) (nI 0).toNatClampNeg 0) _ _ _ rfl (fun m hm => ?_)
  · intro x u1 z4 z5 z6 hx hu
    subst hx
    refine xwp_go g1 [9] 100 _ _ _ _ ?_
    exact And.intro (fun _ => xrv' (G := G) g2 rfl ⟨rfl, u1, hu, rfl⟩) (fun h => absurd (nI_le (Nat.le_refl _) (by omega)) h)
  · intro i hi ih x u1 z4 z5 z6 hx hu
    subst hx
    have hpi : 2 ^ (i + 1) ≤ 2 ^ 8 := Nat.pow_le_pow_right (by decide) (by omega)
    have hp2 : 2 ^ (i + 1) = 2 * 2 ^ i := by rw [Nat.pow_succ, Nat.mul_comm]
    refine xwp_go g1 [9] 100 _ _ _ _ ?_
    refine And.intro (fun h => absurd h (nI_ge hi (by omega))) (fun _ => ?_)
    refine xcallR (G := G) g3 pUl (c_onSlide d hr hi) ?_
    have ep : (1 : Int32) <<< (nI i &&& 31) = nI (2 ^ i) := nI_pow (by omega)
    refine xwp_go g1 [29] 100 _ _ _ _ ?_
    refine up (k := 2 ^ i) (P := fun k => ∀ x b u1, x = nI k → b = nI (2 ^ i) → (∀ m, m < 2 ^ i → u1 m = nI (laidL q m 0 i)) → (∀ m, m < k → u1 (2 ^ i + m) = nI (laidL q m 0 i ||| onQ q i)) → G 29 [some (.ref 0), some (.ref 4), some (.int (nI (q 6 0))), some (.int (nI i)), some (.int (nI (onQ q i))), some (.int b), some (.int x)] [] (eU (aU u 1 u1) a s)) ?_ ?_ 0 (Nat.zero_le _) _ _ u1 rfl ep hu (fun m hm => absurd hm (Nat.not_lt_zero m))
    · intro x b u1 hx hb h1 h2
      subst hx; subst hb
      refine xwp_go g1 [9, 29] 100 _ _ _ _ ?_
      refine And.intro (fun _ => ?_) (fun h => absurd (nI_le (Nat.le_refl _) (by omega)) h)
      refine ih _ u1 _ _ _ (nI_1 i) (fun m hm => ?_)
      rcases Nat.lt_or_ge m (2 ^ i) with h | h
      · rw [h1 m h, laid_0 h]
      · have e := h2 (m - 2 ^ i) (by omega)
        rw [show 2 ^ i + (m - 2 ^ i) = m by omega] at e
        rw [e, ← laid_1 (Nat.two_pow_pos i), or_add (show m - 2 ^ i < 2 ^ i by omega), show 2 ^ i + (m - 2 ^ i) = m by omega]
    · intro k hk ihk x b u1 hx hb h1 h2
      subst hx; subst hb
      refine xwp_go g1 [9, 29] 100 _ _ _ _ ?_
      refine And.intro (fun h => absurd h (nI_ge hk (by omega))) (fun _ => ?_)
      have hin2 : vp_in (nI (2 ^ i) + nI k) 256 := by rw [nI_add]; exact vp_in_nI (by omega) (by decide)
      refine And.intro (vp_in_nI (by omega) (by decide)) (And.intro hin2 ?_)
      refine ihk _ _ (upd u1 (nI (2 ^ i) + nI k).toNatClampNeg (u1 (nI k).toNatClampNeg ||| nI (onQ q i))) (nI_1 k) rfl (fun m hm => ?_) (fun m hm => ?_)
      · rw [nI_add, nI_clamp (by omega), upd_at, if_neg (by omega)]
        exact h1 m hm
      · rw [nI_add, nI_clamp (by omega), nI_clamp (by omega), upd_at]
        by_cases e : m = k
        · rw [if_pos (by omega), h1 k hk, fa_or, e]
        · rw [if_neg (by omega)]
          exact h2 m (by omega)
  · obtain rfl : m = 0 := by
      have : (2 : Nat) ^ 0 = 1 := rfl
      omega
    rw [nI_clamp (by decide), upd_at, if_pos rfl]
    rfl
theorem t_isShownByOne (d : Nat) {u : Nat → Nat → Int32} {f : Nat → Nat} {M p : Nat} (hM : M ≤ 256) (hu : ∀ m, m < M → u 1 m = nI (f m) ∧ f m < 65536) (hp : p < 65536) : xCt xMs (d + 1) nX4_isShownByOne [.ref 0, .int (nI p), .int (nI M)] (eR u) (xRet (bI ((List.range M).any (fun m => f m == p))) (eR u)) := by
  refine xV (M := mX4_isShownByOne) rfl rfl rfl rfl rfl pX4_isShownByOne rfl (fun G g1 g2 g3 => ?_)
  refine xwp_go g1 [2] 100 _ _ _ _ ?_
  refine up (k := M) (P := fun i => ∀ x, x = nI i → (List.range i).any (fun m => f m == p) = false → G 2 [some (.ref 0), some (.int (nI p)), some (.int (nI M)), some (.int x)] [] (eR u)) ?_ ?_ 0 (Nat.zero_le _) _ rfl rfl
  · intro x hx hf
    subst hx
    refine xwp_go g1 [2] 100 _ _ _ _ ?_
    exact And.intro (fun _ => xrz (G := G) g2 rfl (Or.inl rfl) (by rw [hf]; rfl) rfl) (fun h => absurd (nI_le (Nat.le_refl _) (by omega)) h)
  · intro i hi ih x hx hf
    subst hx
    obtain ⟨h1, h2⟩ := hu i hi
    refine xwp_go g1 [2] 100 _ _ _ _ ?_
    refine And.intro (fun h => absurd h (nI_ge hi (by omega))) (fun _ => ?_)
    refine And.intro (vp_in_nI (by omega) (by decide)) ?_
    refine And.intro (fun h => ?_) (fun h => ?_) <;> rw [nI_clamp (by omega), h1, nI_eq (by omega) (by omega)] at h
    · refine ih _ (nI_1 i) ?_
      rw [List.range_succ, List.any_append, hf, Bool.false_or]
      simpa using h
    · refine xrz (G := G) g2 rfl (Or.inr rfl) ?_ rfl
      rw [show (List.range M).any (fun m => f m == p) = true from by
        rw [List.any_eq_true]
        exact ⟨i, List.mem_range.mpr hi, by rw [h]; simp⟩]
      rfl
/-- the wanted pictures that one set shows -/
def stopsL (q : LQ) : Nat → List Nat
  | 0 => []
  | i + 1 => if (List.range (2 ^ q 6 0)).any (fun m => laidQ q m 0 == q 5 i) = true then stopsL q i ++ [q 5 i] else stopsL q i
theorem stops_le (q : LQ) : ∀ i, (stopsL q i).length ≤ i
  | 0 => Nat.le_refl _
  | i + 1 => by
    have := stops_le q i
    unfold stopsL
    split
    · rw [List.length_append]; show _ + 1 ≤ _; omega
    · omega
theorem stops_lt {q : LQ} (h : okS q) : ∀ i, i ≤ q 6 1 → ∀ x, x ∈ stopsL q i → x < 65536
  | 0, _, x, hx => absurd hx (List.not_mem_nil)
  | i + 1, hi, x, hx => by
    unfold stopsL at hx
    split at hx
    · rcases List.mem_append.mp hx with hx | hx
      · exact stops_lt h i (by omega) x hx
      · rw [List.mem_singleton.mp hx]; exact h.2.2.2.2.2 i (by omega)
    · exact stops_lt h i (by omega) x hx
/-- the t-th of a list -/
def gA : List Nat → Nat → Nat
  | [], _ => 0
  | x :: _, 0 => x
  | _ :: l, t + 1 => gA l t
theorem gA_app : ∀ {l m : List Nat} {t : Nat}, t < l.length → gA (l ++ m) t = gA l t
  | [], _, t, h => absurd h (Nat.not_lt_zero t)
  | _ :: _, _, 0, _ => rfl
  | _ :: l, m, t + 1, h => gA_app (l := l) (m := m) (t := t) (by have h : t + 1 < l.length + 1 := h; omega)
theorem gA_end (x : Nat) : ∀ l : List Nat, gA (l ++ [x]) l.length = x
  | [] => rfl
  | _ :: l => gA_end x l
def stopAt (q : LQ) (t : Nat) : Nat := gA (stopsL q (q 6 1)) t
theorem t_findStops (d : Nat) {q : LQ} {a : Nat → Nat → Int32} {s : Nat → Int32} (hr : relS q a s) {u : Nat → Nat → Int32} (hu : ∀ m, m < 2 ^ q 6 0 → u 1 m = nI (laidQ q m 0)) : xCt xMs (d + 3) nX4_findStops [.ref 0, .ref 4, .int (nI (2 ^ q 6 0))] (eU u a s) (fun v w => v = some (.int (nI (stopsL q (q 6 1)).length)) ∧ ∃ u0, (∀ t, t < 4 → t < (stopsL q (q 6 1)).length → u0 t = nI (stopAt q t)) ∧ w = eU (aU u 0 u0) a s) := by
  have h6 := hr.1.2.1
  have h1 := hr.2.2.2.2.1
  have hl := lt256 hr.1
  refine xV (M := mX4_findStops) rfl rfl rfl rfl rfl pX4_findStops rfl (fun G g1 g2 g3 => ?_)
  refine xwp_go g1 [5] 100 _ _ _ _ ?_
  refine up (k := q 6 1) (P := fun i => ∀ x y u0 z5, x = nI i → y = nI (stopsL q i).length → (∀ t, t < 4 → t < (stopsL q i).length → u0 t = nI (gA (stopsL q i) t)) → G 5 [some (.ref 0), some (.ref 4), some (.int (nI (2 ^ q 6 0))), some (.int y), some (.int x), z5] [] (eU (aU u 0 u0) a s)) ?_ ?_ 0 (Nat.zero_le _) _ _ (u 0) _ rfl rfl (fun t _ h => absurd h (Nat.not_lt_zero t))
  · intro x y u0 z5 hx hy h0
    subst hx; subst hy
    refine xwp_go g1 [5] 100 _ _ _ _ ?_
    refine And.intro (fun _ => xri' (G := G) g2 rfl ⟨rfl, u0, h0, rfl⟩) (fun h => ?_)
    rw [h1] at h
    exact absurd (nI_le (Nat.le_refl _) (by omega)) h
  · intro i hi ih x y u0 z5 hx hy h0
    subst hx; subst hy
    have hle := stops_le q i
    have es : stopsL q (i + 1) = if (List.range (2 ^ q 6 0)).any (fun m => laidQ q m 0 == q 5 i) = true then stopsL q i ++ [q 5 i] else stopsL q i := rfl
    refine xwp_go g1 [5] 100 _ _ _ _ ?_
    refine And.intro (fun h => ?_) (fun _ => ?_)
    · rw [h1] at h
      exact absurd h (nI_ge hi (by omega))
    refine xcallR (G := G) g3 pUl (c_wantedPicture d hr hi) ?_
    refine xwp_go g1 [5] 100 _ _ _ _ ?_
    refine xcallR (G := G) g3 pR (t_isShownByOne (u := aU u 0 u0) (f := fun m => laidQ q m 0) (d + 1) (M := 2 ^ q 6 0) (p := q 5 i) (by omega) (fun m hm => ⟨hu m hm, laidQ_lt hr.1 m 0⟩) (hr.1.2.2.2.2.2 i hi)) ?_
    refine xwp_go g1 [5] 100 _ _ _ _ ?_
    refine And.intro (fun h => ?_) (fun h => ?_) <;> rw [bI_0] at h
    · rw [if_pos (Bool.not_eq_false _ ▸ h)] at es
      refine And.intro (fun h4 => ?_) (fun h4 => ?_) <;> rw [show (4 : Int32) = nI 4 from rfl, nI_leI (by decide) (by omega)] at h4
      · refine ih _ _ u0 _ (nI_1 i) (by rw [es, List.length_append, nI_1]; rfl) (fun t ht hlt => ?_)
        rw [h0 t ht (by omega), es, gA_app (by omega)]
      · have cl : (nI (stopsL q i).length).toNatClampNeg = (stopsL q i).length := nI_clamp (by omega)
        refine And.intro (vp_in_nI (by omega) (by decide)) ?_
        refine ih _ _ (upd u0 (nI (stopsL q i).length).toNatClampNeg (nI (q 5 i))) _ (nI_1 i) (by rw [es, List.length_append, nI_1]; rfl) (fun t ht hlt => ?_)
        rw [cl, upd_at, es]
        by_cases e : t = (stopsL q i).length
        · rw [if_pos e, e, gA_end]
        · rw [if_neg e]
          rw [es, List.length_append] at hlt
          have hlt : t < (stopsL q i).length + 1 := hlt
          rw [h0 t ht (by omega), gA_app (by omega)]
    · rw [if_neg (by rw [h]; decide)] at es
      exact ih _ _ u0 _ (nI_1 i) (by rw [es]) (by rw [es]; exact h0)
end
