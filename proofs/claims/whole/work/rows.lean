section
/-- a private method of a class that the tables say can be made, by its rows of tables_1 -/
def lw_okq (q : MethodName × Nat) : Prop := (q.1.cls ≠ "java/lang/invoke/MethodHandle" ∧ q.1.cls ≠ "java/lang/invoke/VarHandle") ∧ Cond.instantiable q.1.cls q.2 ∈ tables_1 ∧ Cond.privateMethod q.1 ∈ tables_1 ∧ Cond.instanceMethod q.1 ∈ tables_1
theorem lw_p0 : lw_okq (⟨"SlidesOverSlides", "refused", "(I)I"⟩, 10) := ⟨⟨by decide +kernel, by decide +kernel⟩, List.mem_of_getElem? (i := 11) (by decide +kernel), List.mem_of_getElem? (i := 178) (by decide +kernel), List.mem_of_getElem? (i := 179) (by decide +kernel)⟩
theorem lw_p1 : lw_okq (⟨"SlidesOverSlides$Letters", "statementComes", "(LSlidesOverSlides$Lantern;II)Z"⟩, 2) := ⟨⟨by decide +kernel, by decide +kernel⟩, List.mem_of_getElem? (i := 62) (by decide +kernel), List.mem_of_getElem? (i := 212) (by decide +kernel), List.mem_of_getElem? (i := 213) (by decide +kernel)⟩
theorem lw_p2 : lw_okq (⟨"SlidesOverSlides$Letters", "signAt", "(I)I"⟩, 2) := ⟨⟨by decide +kernel, by decide +kernel⟩, List.mem_of_getElem? (i := 62) (by decide +kernel), List.mem_of_getElem? (i := 216) (by decide +kernel), List.mem_of_getElem? (i := 217) (by decide +kernel)⟩
theorem lw_p3 : lw_okq (⟨"SlidesOverSlides$Letters", "number", "(II)I"⟩, 2) := ⟨⟨by decide +kernel, by decide +kernel⟩, List.mem_of_getElem? (i := 62) (by decide +kernel), List.mem_of_getElem? (i := 220) (by decide +kernel), List.mem_of_getElem? (i := 221) (by decide +kernel)⟩
theorem lw_p4 : lw_okq (⟨"SlidesOverSlides$Letters", "digit", "(I)I"⟩, 2) := ⟨⟨by decide +kernel, by decide +kernel⟩, List.mem_of_getElem? (i := 62) (by decide +kernel), List.mem_of_getElem? (i := 224) (by decide +kernel), List.mem_of_getElem? (i := 225) (by decide +kernel)⟩
theorem lw_p5 : lw_okq (⟨"SlidesOverSlides$Letters", "pictureBefore", "(I)I"⟩, 2) := ⟨⟨by decide +kernel, by decide +kernel⟩, List.mem_of_getElem? (i := 62) (by decide +kernel), List.mem_of_getElem? (i := 228) (by decide +kernel), List.mem_of_getElem? (i := 229) (by decide +kernel)⟩
theorem lw_p6 : lw_okq (⟨"SlidesOverSlides", "wrongSlide", "(I)I"⟩, 10) := ⟨⟨by decide +kernel, by decide +kernel⟩, List.mem_of_getElem? (i := 11) (by decide +kernel), List.mem_of_getElem? (i := 252) (by decide +kernel), List.mem_of_getElem? (i := 253) (by decide +kernel)⟩
theorem lw_p7 : lw_okq (⟨"SlidesOverSlides$Lantern", "cracked", "(I)I"⟩, 9) := ⟨⟨by decide +kernel, by decide +kernel⟩, List.mem_of_getElem? (i := 19) (by decide +kernel), List.mem_of_getElem? (i := 286) (by decide +kernel), List.mem_of_getElem? (i := 287) (by decide +kernel)⟩
theorem lw_p8 : lw_okq (⟨"SlidesOverSlides", "wrongSet", "(I)I"⟩, 10) := ⟨⟨by decide +kernel, by decide +kernel⟩, List.mem_of_getElem? (i := 11) (by decide +kernel), List.mem_of_getElem? (i := 324) (by decide +kernel), List.mem_of_getElem? (i := 325) (by decide +kernel)⟩
theorem lw_p9 : lw_okq (⟨"SlidesOverSlides$Lantern", "wear", "(I)V"⟩, 9) := ⟨⟨by decide +kernel, by decide +kernel⟩, List.mem_of_getElem? (i := 19) (by decide +kernel), List.mem_of_getElem? (i := 356) (by decide +kernel), List.mem_of_getElem? (i := 357) (by decide +kernel)⟩
theorem lw_p10 : lw_okq (⟨"SlidesOverSlides$Search", "load", "(LSlidesOverSlides$Lantern;III)V"⟩, 11) := ⟨⟨by decide +kernel, by decide +kernel⟩, List.mem_of_getElem? (i := 76) (by decide +kernel), List.mem_of_getElem? (i := 394) (by decide +kernel), List.mem_of_getElem? (i := 395) (by decide +kernel)⟩
theorem lw_p11 : lw_okq (⟨"SlidesOverSlides$Search", "seekFewest", "(IIII)V"⟩, 11) := ⟨⟨by decide +kernel, by decide +kernel⟩, List.mem_of_getElem? (i := 76) (by decide +kernel), List.mem_of_getElem? (i := 407) (by decide +kernel), List.mem_of_getElem? (i := 408) (by decide +kernel)⟩
theorem lw_p12 : lw_okq (⟨"SlidesOverSlides$Search", "isOutOfReach", "(II)Z"⟩, 11) := ⟨⟨by decide +kernel, by decide +kernel⟩, List.mem_of_getElem? (i := 76) (by decide +kernel), List.mem_of_getElem? (i := 411) (by decide +kernel), List.mem_of_getElem? (i := 412) (by decide +kernel)⟩
theorem lw_p13 : lw_okq (⟨"SlidesOverSlides$Search", "noteFewest", "(II)V"⟩, 11) := ⟨⟨by decide +kernel, by decide +kernel⟩, List.mem_of_getElem? (i := 76) (by decide +kernel), List.mem_of_getElem? (i := 416) (by decide +kernel), List.mem_of_getElem? (i := 417) (by decide +kernel)⟩
theorem lw_p14 : lw_okq (⟨"SlidesOverSlides$Search", "seekCheapest", "(III)V"⟩, 11) := ⟨⟨by decide +kernel, by decide +kernel⟩, List.mem_of_getElem? (i := 76) (by decide +kernel), List.mem_of_getElem? (i := 428) (by decide +kernel), List.mem_of_getElem? (i := 429) (by decide +kernel)⟩
theorem lw_p15 : lw_okq (⟨"SlidesOverSlides$Search", "seekNear", "(II)V"⟩, 11) := ⟨⟨by decide +kernel, by decide +kernel⟩, List.mem_of_getElem? (i := 76) (by decide +kernel), List.mem_of_getElem? (i := 441) (by decide +kernel), List.mem_of_getElem? (i := 442) (by decide +kernel)⟩
def lw_privs_1 : List (MethodName × Nat) := [(⟨"SlidesOverSlides", "refused", "(I)I"⟩, 10), (⟨"SlidesOverSlides$Letters", "statementComes", "(LSlidesOverSlides$Lantern;II)Z"⟩, 2), (⟨"SlidesOverSlides$Letters", "signAt", "(I)I"⟩, 2), (⟨"SlidesOverSlides$Letters", "number", "(II)I"⟩, 2), (⟨"SlidesOverSlides$Letters", "digit", "(I)I"⟩, 2), (⟨"SlidesOverSlides$Letters", "pictureBefore", "(I)I"⟩, 2), (⟨"SlidesOverSlides", "wrongSlide", "(I)I"⟩, 10), (⟨"SlidesOverSlides$Lantern", "cracked", "(I)I"⟩, 9), (⟨"SlidesOverSlides", "wrongSet", "(I)I"⟩, 10), (⟨"SlidesOverSlides$Lantern", "wear", "(I)V"⟩, 9), (⟨"SlidesOverSlides$Search", "load", "(LSlidesOverSlides$Lantern;III)V"⟩, 11), (⟨"SlidesOverSlides$Search", "seekFewest", "(IIII)V"⟩, 11), (⟨"SlidesOverSlides$Search", "isOutOfReach", "(II)Z"⟩, 11), (⟨"SlidesOverSlides$Search", "noteFewest", "(II)V"⟩, 11), (⟨"SlidesOverSlides$Search", "seekCheapest", "(III)V"⟩, 11), (⟨"SlidesOverSlides$Search", "seekNear", "(II)V"⟩, 11)]
theorem lw_r1 : ∀ q ∈ lw_privs_1, lw_okq q := List.forall_mem_cons.mpr ⟨lw_p0, List.forall_mem_cons.mpr ⟨lw_p1, List.forall_mem_cons.mpr ⟨lw_p2, List.forall_mem_cons.mpr ⟨lw_p3, List.forall_mem_cons.mpr ⟨lw_p4, List.forall_mem_cons.mpr ⟨lw_p5, List.forall_mem_cons.mpr ⟨lw_p6, List.forall_mem_cons.mpr ⟨lw_p7, List.forall_mem_cons.mpr ⟨lw_p8, List.forall_mem_cons.mpr ⟨lw_p9, List.forall_mem_cons.mpr ⟨lw_p10, List.forall_mem_cons.mpr ⟨lw_p11, List.forall_mem_cons.mpr ⟨lw_p12, List.forall_mem_cons.mpr ⟨lw_p13, List.forall_mem_cons.mpr ⟨lw_p14, List.forall_mem_cons.mpr ⟨lw_p15, fun _ h => absurd h List.not_mem_nil⟩⟩⟩⟩⟩⟩⟩⟩⟩⟩⟩⟩⟩⟩⟩⟩
theorem lw_p16 : lw_okq (⟨"SlidesOverSlides$Search", "isShown", "(II)Z"⟩, 11) := ⟨⟨by decide +kernel, by decide +kernel⟩, List.mem_of_getElem? (i := 76) (by decide +kernel), List.mem_of_getElem? (i := 454) (by decide +kernel), List.mem_of_getElem? (i := 455) (by decide +kernel)⟩
theorem lw_p17 : lw_okq (⟨"SlidesOverSlides$Tour", "layAll", "(LSlidesOverSlides$Lantern;I)V"⟩, 3) := ⟨⟨by decide +kernel, by decide +kernel⟩, List.mem_of_getElem? (i := 120) (by decide +kernel), List.mem_of_getElem? (i := 491) (by decide +kernel), List.mem_of_getElem? (i := 492) (by decide +kernel)⟩
theorem lw_p18 : lw_okq (⟨"SlidesOverSlides$Tour", "findStops", "(LSlidesOverSlides$Lantern;I)I"⟩, 3) := ⟨⟨by decide +kernel, by decide +kernel⟩, List.mem_of_getElem? (i := 120) (by decide +kernel), List.mem_of_getElem? (i := 496) (by decide +kernel), List.mem_of_getElem? (i := 497) (by decide +kernel)⟩
theorem lw_p19 : lw_okq (⟨"SlidesOverSlides$Tour", "isShownByOne", "(II)Z"⟩, 3) := ⟨⟨by decide +kernel, by decide +kernel⟩, List.mem_of_getElem? (i := 120) (by decide +kernel), List.mem_of_getElem? (i := 501) (by decide +kernel), List.mem_of_getElem? (i := 502) (by decide +kernel)⟩
theorem lw_p20 : lw_okq (⟨"SlidesOverSlides$Tour", "arrive", "(III)V"⟩, 3) := ⟨⟨by decide +kernel, by decide +kernel⟩, List.mem_of_getElem? (i := 120) (by decide +kernel), List.mem_of_getElem? (i := 506) (by decide +kernel), List.mem_of_getElem? (i := 507) (by decide +kernel)⟩
theorem lw_p21 : lw_okq (⟨"SlidesOverSlides$Tour", "walk", "(II)V"⟩, 3) := ⟨⟨by decide +kernel, by decide +kernel⟩, List.mem_of_getElem? (i := 120) (by decide +kernel), List.mem_of_getElem? (i := 510) (by decide +kernel), List.mem_of_getElem? (i := 511) (by decide +kernel)⟩
theorem lw_p22 : lw_okq (⟨"SlidesOverSlides$Tour", "leastSteps", "(II)I"⟩, 3) := ⟨⟨by decide +kernel, by decide +kernel⟩, List.mem_of_getElem? (i := 120) (by decide +kernel), List.mem_of_getElem? (i := 514) (by decide +kernel), List.mem_of_getElem? (i := 515) (by decide +kernel)⟩
theorem lw_p23 : lw_okq (⟨"SlidesOverSlidesModel", "no", "(I)I"⟩, 32) := ⟨⟨by decide +kernel, by decide +kernel⟩, List.mem_of_getElem? (i := 563) (by decide +kernel), List.mem_of_getElem? (i := 673) (by decide +kernel), List.mem_of_getElem? (i := 674) (by decide +kernel)⟩
theorem lw_p24 : lw_okq (⟨"SlidesOverSlidesModel", "statement", "()Z"⟩, 32) := ⟨⟨by decide +kernel, by decide +kernel⟩, List.mem_of_getElem? (i := 563) (by decide +kernel), List.mem_of_getElem? (i := 681) (by decide +kernel), List.mem_of_getElem? (i := 682) (by decide +kernel)⟩
theorem lw_p25 : lw_okq (⟨"SlidesOverSlidesModel", "next", "()I"⟩, 32) := ⟨⟨by decide +kernel, by decide +kernel⟩, List.mem_of_getElem? (i := 563) (by decide +kernel), List.mem_of_getElem? (i := 685) (by decide +kernel), List.mem_of_getElem? (i := 686) (by decide +kernel)⟩
theorem lw_p26 : lw_okq (⟨"SlidesOverSlidesModel", "readsSlide", "(I)Z"⟩, 32) := ⟨⟨by decide +kernel, by decide +kernel⟩, List.mem_of_getElem? (i := 563) (by decide +kernel), List.mem_of_getElem? (i := 689) (by decide +kernel), List.mem_of_getElem? (i := 690) (by decide +kernel)⟩
theorem lw_p27 : lw_okq (⟨"SlidesOverSlidesModel", "readsNumber", "(II)Z"⟩, 32) := ⟨⟨by decide +kernel, by decide +kernel⟩, List.mem_of_getElem? (i := 563) (by decide +kernel), List.mem_of_getElem? (i := 693) (by decide +kernel), List.mem_of_getElem? (i := 694) (by decide +kernel)⟩
theorem lw_p28 : lw_okq (⟨"SlidesOverSlidesModel", "readsPicture", "(I)Z"⟩, 32) := ⟨⟨by decide +kernel, by decide +kernel⟩, List.mem_of_getElem? (i := 563) (by decide +kernel), List.mem_of_getElem? (i := 700) (by decide +kernel), List.mem_of_getElem? (i := 701) (by decide +kernel)⟩
theorem lw_p29 : lw_okq (⟨"SlidesOverSlidesModel", "passesAll", "(IZ)V"⟩, 32) := ⟨⟨by decide +kernel, by decide +kernel⟩, List.mem_of_getElem? (i := 563) (by decide +kernel), List.mem_of_getElem? (i := 704) (by decide +kernel), List.mem_of_getElem? (i := 705) (by decide +kernel)⟩
theorem lw_p30 : lw_okq (⟨"SlidesOverSlidesModel", "passes", "([I)V"⟩, 32) := ⟨⟨by decide +kernel, by decide +kernel⟩, List.mem_of_getElem? (i := 563) (by decide +kernel), List.mem_of_getElem? (i := 708) (by decide +kernel), List.mem_of_getElem? (i := 709) (by decide +kernel)⟩
theorem lw_p31 : lw_okq (⟨"SlidesOverSlidesModel", "passOne", "(I)I"⟩, 32) := ⟨⟨by decide +kernel, by decide +kernel⟩, List.mem_of_getElem? (i := 563) (by decide +kernel), List.mem_of_getElem? (i := 712) (by decide +kernel), List.mem_of_getElem? (i := 713) (by decide +kernel)⟩
def lw_privs_2 : List (MethodName × Nat) := [(⟨"SlidesOverSlides$Search", "isShown", "(II)Z"⟩, 11), (⟨"SlidesOverSlides$Tour", "layAll", "(LSlidesOverSlides$Lantern;I)V"⟩, 3), (⟨"SlidesOverSlides$Tour", "findStops", "(LSlidesOverSlides$Lantern;I)I"⟩, 3), (⟨"SlidesOverSlides$Tour", "isShownByOne", "(II)Z"⟩, 3), (⟨"SlidesOverSlides$Tour", "arrive", "(III)V"⟩, 3), (⟨"SlidesOverSlides$Tour", "walk", "(II)V"⟩, 3), (⟨"SlidesOverSlides$Tour", "leastSteps", "(II)I"⟩, 3), (⟨"SlidesOverSlidesModel", "no", "(I)I"⟩, 32), (⟨"SlidesOverSlidesModel", "statement", "()Z"⟩, 32), (⟨"SlidesOverSlidesModel", "next", "()I"⟩, 32), (⟨"SlidesOverSlidesModel", "readsSlide", "(I)Z"⟩, 32), (⟨"SlidesOverSlidesModel", "readsNumber", "(II)Z"⟩, 32), (⟨"SlidesOverSlidesModel", "readsPicture", "(I)Z"⟩, 32), (⟨"SlidesOverSlidesModel", "passesAll", "(IZ)V"⟩, 32), (⟨"SlidesOverSlidesModel", "passes", "([I)V"⟩, 32), (⟨"SlidesOverSlidesModel", "passOne", "(I)I"⟩, 32)]
theorem lw_r2 : ∀ q ∈ lw_privs_2, lw_okq q := List.forall_mem_cons.mpr ⟨lw_p16, List.forall_mem_cons.mpr ⟨lw_p17, List.forall_mem_cons.mpr ⟨lw_p18, List.forall_mem_cons.mpr ⟨lw_p19, List.forall_mem_cons.mpr ⟨lw_p20, List.forall_mem_cons.mpr ⟨lw_p21, List.forall_mem_cons.mpr ⟨lw_p22, List.forall_mem_cons.mpr ⟨lw_p23, List.forall_mem_cons.mpr ⟨lw_p24, List.forall_mem_cons.mpr ⟨lw_p25, List.forall_mem_cons.mpr ⟨lw_p26, List.forall_mem_cons.mpr ⟨lw_p27, List.forall_mem_cons.mpr ⟨lw_p28, List.forall_mem_cons.mpr ⟨lw_p29, List.forall_mem_cons.mpr ⟨lw_p30, List.forall_mem_cons.mpr ⟨lw_p31, fun _ h => absurd h List.not_mem_nil⟩⟩⟩⟩⟩⟩⟩⟩⟩⟩⟩⟩⟩⟩⟩⟩
theorem lw_p32 : lw_okq (⟨"SlidesOverSlidesModel", "comes", "(I)Z"⟩, 32) := ⟨⟨by decide +kernel, by decide +kernel⟩, List.mem_of_getElem? (i := 563) (by decide +kernel), List.mem_of_getElem? (i := 716) (by decide +kernel), List.mem_of_getElem? (i := 717) (by decide +kernel)⟩
theorem lw_p33 : lw_okq (⟨"SlidesOverSlidesModel", "isSlide", "(I)Z"⟩, 32) := ⟨⟨by decide +kernel, by decide +kernel⟩, List.mem_of_getElem? (i := 563) (by decide +kernel), List.mem_of_getElem? (i := 732) (by decide +kernel), List.mem_of_getElem? (i := 733) (by decide +kernel)⟩
theorem lw_p34 : lw_okq (⟨"SlidesOverSlidesModel", "onSlide", "(I)I"⟩, 32) := ⟨⟨by decide +kernel, by decide +kernel⟩, List.mem_of_getElem? (i := 563) (by decide +kernel), List.mem_of_getElem? (i := 736) (by decide +kernel), List.mem_of_getElem? (i := 737) (by decide +kernel)⟩
theorem lw_p35 : lw_okq (⟨"SlidesOverSlidesModel", "areSlides", "(I)Z"⟩, 32) := ⟨⟨by decide +kernel, by decide +kernel⟩, List.mem_of_getElem? (i := 563) (by decide +kernel), List.mem_of_getElem? (i := 766) (by decide +kernel), List.mem_of_getElem? (i := 767) (by decide +kernel)⟩
theorem lw_p36 : lw_okq (⟨"SlidesOverSlidesModel", "laid", "(II)I"⟩, 32) := ⟨⟨by decide +kernel, by decide +kernel⟩, List.mem_of_getElem? (i := 563) (by decide +kernel), List.mem_of_getElem? (i := 770) (by decide +kernel), List.mem_of_getElem? (i := 771) (by decide +kernel)⟩
theorem lw_p37 : lw_okq (⟨"SlidesOverSlidesModel", "isShow", "(I)Z"⟩, 32) := ⟨⟨by decide +kernel, by decide +kernel⟩, List.mem_of_getElem? (i := 563) (by decide +kernel), List.mem_of_getElem? (i := 778) (by decide +kernel), List.mem_of_getElem? (i := 779) (by decide +kernel)⟩
theorem lw_p38 : lw_okq (⟨"SlidesOverSlidesModel", "projects", "(I)I"⟩, 32) := ⟨⟨by decide +kernel, by decide +kernel⟩, List.mem_of_getElem? (i := 563) (by decide +kernel), List.mem_of_getElem? (i := 785) (by decide +kernel), List.mem_of_getElem? (i := 786) (by decide +kernel)⟩
theorem lw_p39 : lw_okq (⟨"SlidesOverSlidesModel", "findShown", "(I)V"⟩, 32) := ⟨⟨by decide +kernel, by decide +kernel⟩, List.mem_of_getElem? (i := 563) (by decide +kernel), List.mem_of_getElem? (i := 805) (by decide +kernel), List.mem_of_getElem? (i := 806) (by decide +kernel)⟩
theorem lw_p40 : lw_okq (⟨"SlidesOverSlidesModel", "tellsShown", "(III)V"⟩, 32) := ⟨⟨by decide +kernel, by decide +kernel⟩, List.mem_of_getElem? (i := 563) (by decide +kernel), List.mem_of_getElem? (i := 809) (by decide +kernel), List.mem_of_getElem? (i := 810) (by decide +kernel)⟩
theorem lw_p41 : lw_okq (⟨"SlidesOverSlidesModel", "pricesOf", "(I)I"⟩, 32) := ⟨⟨by decide +kernel, by decide +kernel⟩, List.mem_of_getElem? (i := 563) (by decide +kernel), List.mem_of_getElem? (i := 813) (by decide +kernel), List.mem_of_getElem? (i := 814) (by decide +kernel)⟩
theorem lw_p42 : lw_okq (⟨"SlidesOverSlidesModel", "canWithout", "(I)I"⟩, 32) := ⟨⟨by decide +kernel, by decide +kernel⟩, List.mem_of_getElem? (i := 563) (by decide +kernel), List.mem_of_getElem? (i := 829) (by decide +kernel), List.mem_of_getElem? (i := 830) (by decide +kernel)⟩
theorem lw_p43 : lw_okq (⟨"SlidesOverSlidesModel", "notAsked", "(IIII)I"⟩, 32) := ⟨⟨by decide +kernel, by decide +kernel⟩, List.mem_of_getElem? (i := 563) (by decide +kernel), List.mem_of_getElem? (i := 841) (by decide +kernel), List.mem_of_getElem? (i := 842) (by decide +kernel)⟩
theorem lw_p44 : lw_okq (⟨"SlidesOverSlidesModel", "lowest", "(I)J"⟩, 32) := ⟨⟨by decide +kernel, by decide +kernel⟩, List.mem_of_getElem? (i := 563) (by decide +kernel), List.mem_of_getElem? (i := 853) (by decide +kernel), List.mem_of_getElem? (i := 854) (by decide +kernel)⟩
theorem lw_p45 : lw_okq (⟨"SlidesOverSlidesModel", "findAsked", "()I"⟩, 32) := ⟨⟨by decide +kernel, by decide +kernel⟩, List.mem_of_getElem? (i := 563) (by decide +kernel), List.mem_of_getElem? (i := 866) (by decide +kernel), List.mem_of_getElem? (i := 867) (by decide +kernel)⟩
theorem lw_p46 : lw_okq (⟨"SlidesOverSlidesModel", "lowers", "(II)V"⟩, 32) := ⟨⟨by decide +kernel, by decide +kernel⟩, List.mem_of_getElem? (i := 563) (by decide +kernel), List.mem_of_getElem? (i := 873) (by decide +kernel), List.mem_of_getElem? (i := 874) (by decide +kernel)⟩
theorem lw_p47 : lw_okq (⟨"SlidesOverSlidesModel", "goesFrom", "(IIII)V"⟩, 32) := ⟨⟨by decide +kernel, by decide +kernel⟩, List.mem_of_getElem? (i := 563) (by decide +kernel), List.mem_of_getElem? (i := 877) (by decide +kernel), List.mem_of_getElem? (i := 878) (by decide +kernel)⟩
def lw_privs_3 : List (MethodName × Nat) := [(⟨"SlidesOverSlidesModel", "comes", "(I)Z"⟩, 32), (⟨"SlidesOverSlidesModel", "isSlide", "(I)Z"⟩, 32), (⟨"SlidesOverSlidesModel", "onSlide", "(I)I"⟩, 32), (⟨"SlidesOverSlidesModel", "areSlides", "(I)Z"⟩, 32), (⟨"SlidesOverSlidesModel", "laid", "(II)I"⟩, 32), (⟨"SlidesOverSlidesModel", "isShow", "(I)Z"⟩, 32), (⟨"SlidesOverSlidesModel", "projects", "(I)I"⟩, 32), (⟨"SlidesOverSlidesModel", "findShown", "(I)V"⟩, 32), (⟨"SlidesOverSlidesModel", "tellsShown", "(III)V"⟩, 32), (⟨"SlidesOverSlidesModel", "pricesOf", "(I)I"⟩, 32), (⟨"SlidesOverSlidesModel", "canWithout", "(I)I"⟩, 32), (⟨"SlidesOverSlidesModel", "notAsked", "(IIII)I"⟩, 32), (⟨"SlidesOverSlidesModel", "lowest", "(I)J"⟩, 32), (⟨"SlidesOverSlidesModel", "findAsked", "()I"⟩, 32), (⟨"SlidesOverSlidesModel", "lowers", "(II)V"⟩, 32), (⟨"SlidesOverSlidesModel", "goesFrom", "(IIII)V"⟩, 32)]
theorem lw_r3 : ∀ q ∈ lw_privs_3, lw_okq q := List.forall_mem_cons.mpr ⟨lw_p32, List.forall_mem_cons.mpr ⟨lw_p33, List.forall_mem_cons.mpr ⟨lw_p34, List.forall_mem_cons.mpr ⟨lw_p35, List.forall_mem_cons.mpr ⟨lw_p36, List.forall_mem_cons.mpr ⟨lw_p37, List.forall_mem_cons.mpr ⟨lw_p38, List.forall_mem_cons.mpr ⟨lw_p39, List.forall_mem_cons.mpr ⟨lw_p40, List.forall_mem_cons.mpr ⟨lw_p41, List.forall_mem_cons.mpr ⟨lw_p42, List.forall_mem_cons.mpr ⟨lw_p43, List.forall_mem_cons.mpr ⟨lw_p44, List.forall_mem_cons.mpr ⟨lw_p45, List.forall_mem_cons.mpr ⟨lw_p46, List.forall_mem_cons.mpr ⟨lw_p47, fun _ h => absurd h List.not_mem_nil⟩⟩⟩⟩⟩⟩⟩⟩⟩⟩⟩⟩⟩⟩⟩⟩
theorem lw_p48 : lw_okq (⟨"SlidesOverSlidesModel", "isWish", "(I)Z"⟩, 32) := ⟨⟨by decide +kernel, by decide +kernel⟩, List.mem_of_getElem? (i := 563) (by decide +kernel), List.mem_of_getElem? (i := 889) (by decide +kernel), List.mem_of_getElem? (i := 890) (by decide +kernel)⟩
def lw_privs_4 : List (MethodName × Nat) := [(⟨"SlidesOverSlidesModel", "isWish", "(I)Z"⟩, 32)]
theorem lw_r4 : ∀ q ∈ lw_privs_4, lw_okq q := List.forall_mem_cons.mpr ⟨lw_p48, fun _ h => absurd h List.not_mem_nil⟩
def lw_privs : List (MethodName × Nat) := lw_privs_1 ++ (lw_privs_2 ++ (lw_privs_3 ++ (lw_privs_4)))
def lw_tbl : List Cond := k2_sels lw_privs ++ tables_1
theorem lw_privs_ok : ∀ q ∈ lw_privs, lw_okq q := by
  show ∀ q ∈ lw_privs_1 ++ (lw_privs_2 ++ (lw_privs_3 ++ (lw_privs_4))), lw_okq q
  exact List.forall_mem_append.mpr ⟨lw_r1, List.forall_mem_append.mpr ⟨lw_r2, List.forall_mem_append.mpr ⟨lw_r3, lw_r4⟩⟩⟩
end
section
def RX0 : String := "SlidesOverSlides$Cells"
def TX0 : u_T := fun k => match k with
  | _ => ("", "", "", false)
def tyX0 : Nat → FieldType := fun k => match k with
  | _ => .int
abbrev wsX00 : List Cond := u_ws RX0 TX0 0
theorem nmX0 : ∀ a, a < 0 → ∀ b, b < 0 → a ≠ b → (TX0 a).2.1 ≠ (TX0 b).2.1 := by decide +kernel
theorem tyX0_ok : ∀ k, k < 0 → parseFieldDescriptor (TX0 k).2.2.1 = some (tyX0 k) := by decide +kernel
abbrev cX0_mirrored : ByteArray := prog_2_method_2_code
def yX0_mirrored : MethodName := ⟨RX0, "mirrored", "(I)I"⟩
abbrev cX0_flipped : ByteArray := prog_2_method_3_code
def yX0_flipped : MethodName := ⟨RX0, "flipped", "(I)I"⟩
abbrev cX0_shifted : ByteArray := prog_2_method_4_code
def yX0_shifted : MethodName := ⟨RX0, "shifted", "(II)I"⟩
abbrev cX0_groups : ByteArray := prog_2_method_5_code
def yX0_groups : MethodName := ⟨RX0, "groups", "(I)I"⟩
abbrev cX0_grown : ByteArray := prog_2_method_6_code
def yX0_grown : MethodName := ⟨RX0, "grown", "(II)I"⟩
def RX1 : String := "SlidesOverSlides$Lantern"
def TX1 : u_T := fun k => match k with
  | 0 => ("SlidesOverSlides$Lantern", "kinds", "[I", true)
  | 1 => ("SlidesOverSlides$Lantern", "figures", "[I", true)
  | 2 => ("SlidesOverSlides$Lantern", "painted", "[I", true)
  | 3 => ("SlidesOverSlides$Lantern", "prices", "[I", true)
  | 4 => ("SlidesOverSlides$Lantern", "uses", "[I", true)
  | 5 => ("SlidesOverSlides$Lantern", "wantedPictures", "[I", true)
  | 6 => ("SlidesOverSlides$Lantern", "slideCount", "I", false)
  | 7 => ("SlidesOverSlides$Lantern", "wantedCount", "I", false)
  | _ => ("SlidesOverSlides$Lantern", "heatNow", "I", false)
def tyX1 : Nat → FieldType := fun k => match k with
  | 0 => .array .int
  | 1 => .array .int
  | 2 => .array .int
  | 3 => .array .int
  | 4 => .array .int
  | 5 => .array .int
  | 6 => .int
  | 7 => .int
  | _ => .int
abbrev wsX10 : List Cond := u_ws RX1 TX1 9
theorem nmX1 : ∀ a, a < 9 → ∀ b, b < 9 → a ≠ b → (TX1 a).2.1 ≠ (TX1 b).2.1 := by decide +kernel
theorem tyX1_ok : ∀ k, k < 9 → parseFieldDescriptor (TX1 k).2.2.1 = some (tyX1 k) := by decide +kernel
abbrev cX1_init : ByteArray := prog_3_method_1_code
def yX1_init : MethodName := ⟨RX1, "<init>", "()V"⟩
abbrev cX1_becomes : ByteArray := prog_3_method_2_code
def yX1_becomes : MethodName := ⟨RX1, "becomes", "(LSlidesOverSlides$Lantern;)V"⟩
abbrev cX1_addsSlide : ByteArray := prog_3_method_3_code
def yX1_addsSlide : MethodName := ⟨RX1, "addsSlide", "(IIII)Z"⟩
abbrev cX1_addsWanted : ByteArray := prog_3_method_4_code
def yX1_addsWanted : MethodName := ⟨RX1, "addsWanted", "(I)Z"⟩
abbrev cX1_heats : ByteArray := prog_3_method_5_code
def yX1_heats : MethodName := ⟨RX1, "heats", "(I)Z"⟩
abbrev cX1_has : ByteArray := prog_3_method_6_code
def yX1_has : MethodName := ⟨RX1, "has", "(I)Z"⟩
abbrev cX1_hasAll : ByteArray := prog_3_method_7_code
def yX1_hasAll : MethodName := ⟨RX1, "hasAll", "(I)Z"⟩
abbrev cX1_hasWanted : ByteArray := prog_3_method_8_code
def yX1_hasWanted : MethodName := ⟨RX1, "hasWanted", "(I)Z"⟩
abbrev cX1_isProjectable : ByteArray := prog_3_method_9_code
def yX1_isProjectable : MethodName := ⟨RX1, "isProjectable", "(I)Z"⟩
abbrev cX1_isWanted : ByteArray := prog_3_method_10_code
def yX1_isWanted : MethodName := ⟨RX1, "isWanted", "(I)Z"⟩
abbrev cX1_wantedPicture : ByteArray := prog_3_method_11_code
def yX1_wantedPicture : MethodName := ⟨RX1, "wantedPicture", "(I)I"⟩
abbrev cX1_told : ByteArray := prog_3_method_12_code
def yX1_told : MethodName := ⟨RX1, "told", "(II)I"⟩
abbrev cX1_repriced : ByteArray := prog_3_method_13_code
def yX1_repriced : MethodName := ⟨RX1, "repriced", "(II)I"⟩
abbrev cX1_onSlide : ByteArray := prog_3_method_14_code
def yX1_onSlide : MethodName := ⟨RX1, "onSlide", "(I)I"⟩
abbrev cX1_cracked : ByteArray := prog_3_method_15_code
def yX1_cracked : MethodName := ⟨RX1, "cracked", "(I)I"⟩
abbrev cX1_laid : ByteArray := prog_3_method_16_code
def yX1_laid : MethodName := ⟨RX1, "laid", "(II)I"⟩
abbrev cX1_projected : ByteArray := prog_3_method_17_code
def yX1_projected : MethodName := ⟨RX1, "projected", "(I)I"⟩
abbrev cX1_wear : ByteArray := prog_3_method_18_code
def yX1_wear : MethodName := ⟨RX1, "wear", "(I)V"⟩
abbrev cX1_nearestWanted : ByteArray := prog_3_method_19_code
def yX1_nearestWanted : MethodName := ⟨RX1, "nearestWanted", "(I)I"⟩
abbrev cX1_cracksToShow : ByteArray := prog_3_method_20_code
def yX1_cracksToShow : MethodName := ⟨RX1, "cracksToShow", "(III)I"⟩
abbrev cX1_allUses : ByteArray := prog_3_method_21_code
def yX1_allUses : MethodName := ⟨RX1, "allUses", "()I"⟩
abbrev cX1_allPrices : ByteArray := prog_3_method_22_code
def yX1_allPrices : MethodName := ⟨RX1, "allPrices", "()I"⟩
def RX2 : String := "SlidesOverSlides$Letters"
def TX2 : u_T := fun k => match k with
  | 0 => ("SlidesOverSlides$Letters", "signs", "[I", true)
  | _ => ("SlidesOverSlides$Letters", "told", "I", false)
def tyX2 : Nat → FieldType := fun k => match k with
  | 0 => .array .int
  | _ => .int
abbrev wsX20 : List Cond := u_ws RX2 TX2 2
theorem nmX2 : ∀ a, a < 2 → ∀ b, b < 2 → a ≠ b → (TX2 a).2.1 ≠ (TX2 b).2.1 := by decide +kernel
theorem tyX2_ok : ∀ k, k < 2 → parseFieldDescriptor (TX2 k).2.2.1 = some (tyX2 k) := by decide +kernel
abbrev cX2_init : ByteArray := prog_4_method_1_code
def yX2_init : MethodName := ⟨RX2, "<init>", "()V"⟩
abbrev cX2_isFull : ByteArray := prog_4_method_2_code
def yX2_isFull : MethodName := ⟨RX2, "isFull", "()Z"⟩
abbrev cX2_taken : ByteArray := prog_4_method_3_code
def yX2_taken : MethodName := ⟨RX2, "taken", "(I)I"⟩
abbrev cX2_forget : ByteArray := prog_4_method_4_code
def yX2_forget : MethodName := ⟨RX2, "forget", "()V"⟩
abbrev cX2_fault : ByteArray := prog_4_method_5_code
def yX2_fault : MethodName := ⟨RX2, "fault", "()I"⟩
abbrev cX2_stateBehind : ByteArray := prog_4_method_6_code
def yX2_stateBehind : MethodName := ⟨RX2, "stateBehind", "(II)I"⟩
abbrev cX2_stateOpened : ByteArray := prog_4_method_7_code
def yX2_stateOpened : MethodName := ⟨RX2, "stateOpened", "(I)I"⟩
abbrev cX2_isDigit : ByteArray := prog_4_method_8_code
def yX2_isDigit : MethodName := ⟨RX2, "isDigit", "(I)Z"⟩
abbrev cX2_toldTo : ByteArray := prog_4_method_9_code
def yX2_toldTo : MethodName := ⟨RX2, "toldTo", "(LSlidesOverSlides$Lantern;)I"⟩
abbrev cX2_statementComes : ByteArray := prog_4_method_10_code
def yX2_statementComes : MethodName := ⟨RX2, "statementComes", "(LSlidesOverSlides$Lantern;II)Z"⟩
abbrev cX2_signAt : ByteArray := prog_4_method_11_code
def yX2_signAt : MethodName := ⟨RX2, "signAt", "(I)I"⟩
abbrev cX2_digit : ByteArray := prog_4_method_12_code
def yX2_digit : MethodName := ⟨RX2, "digit", "(I)I"⟩
abbrev cX2_number : ByteArray := prog_4_method_13_code
def yX2_number : MethodName := ⟨RX2, "number", "(II)I"⟩
abbrev cX2_pictureBefore : ByteArray := prog_4_method_14_code
def yX2_pictureBefore : MethodName := ⟨RX2, "pictureBefore", "(I)I"⟩
def RX3 : String := "SlidesOverSlides$Search"
def TX3 : u_T := fun k => match k with
  | 0 => ("SlidesOverSlides$Search", "straight", "[I", true)
  | 1 => ("SlidesOverSlides$Search", "turned", "[I", true)
  | 2 => ("SlidesOverSlides$Search", "slidePrices", "[I", true)
  | 3 => ("SlidesOverSlides$Search", "reach", "[I", true)
  | 4 => ("SlidesOverSlides$Search", "depth", "I", false)
  | 5 => ("SlidesOverSlides$Search", "target", "I", false)
  | 6 => ("SlidesOverSlides$Search", "leastFound", "I", false)
  | 7 => ("SlidesOverSlides$Search", "fewestSize", "I", false)
  | 8 => ("SlidesOverSlides$Search", "fewestSet", "I", false)
  | 9 => ("SlidesOverSlides$Search", "fewestOver", "I", false)
  | _ => ("SlidesOverSlides$Search", "fewestWays", "I", false)
def tyX3 : Nat → FieldType := fun k => match k with
  | 0 => .array .int
  | 1 => .array .int
  | 2 => .array .int
  | 3 => .array .int
  | 4 => .int
  | 5 => .int
  | 6 => .int
  | 7 => .int
  | 8 => .int
  | 9 => .int
  | _ => .int
abbrev wsX30 : List Cond := u_ws RX3 TX3 11
theorem nmX3 : ∀ a, a < 11 → ∀ b, b < 11 → a ≠ b → (TX3 a).2.1 ≠ (TX3 b).2.1 := by decide +kernel
theorem tyX3_ok : ∀ k, k < 11 → parseFieldDescriptor (TX3 k).2.2.1 = some (tyX3 k) := by decide +kernel
abbrev cX3_init : ByteArray := prog_5_method_1_code
def yX3_init : MethodName := ⟨RX3, "<init>", "()V"⟩
abbrev cX3_findsFewest : ByteArray := prog_5_method_2_code
def yX3_findsFewest : MethodName := ⟨RX3, "findsFewest", "(LSlidesOverSlides$Lantern;I)Z"⟩
abbrev cX3_leastPrice : ByteArray := prog_5_method_3_code
def yX3_leastPrice : MethodName := ⟨RX3, "leastPrice", "(LSlidesOverSlides$Lantern;I)I"⟩
abbrev cX3_leastUnlike : ByteArray := prog_5_method_4_code
def yX3_leastUnlike : MethodName := ⟨RX3, "leastUnlike", "(LSlidesOverSlides$Lantern;I)I"⟩
abbrev cX3_showable : ByteArray := prog_5_method_5_code
def yX3_showable : MethodName := ⟨RX3, "showable", "(LSlidesOverSlides$Lantern;I)I"⟩
abbrev cX3_load : ByteArray := prog_5_method_6_code
def yX3_load : MethodName := ⟨RX3, "load", "(LSlidesOverSlides$Lantern;III)V"⟩
abbrev cX3_usable : ByteArray := prog_5_method_7_code
def yX3_usable : MethodName := ⟨RX3, "usable", "(II)I"⟩
abbrev cX3_dark : ByteArray := prog_5_method_8_code
def yX3_dark : MethodName := ⟨RX3, "dark", "(I)I"⟩
abbrev cX3_isOutOfReach : ByteArray := prog_5_method_9_code
def yX3_isOutOfReach : MethodName := ⟨RX3, "isOutOfReach", "(II)Z"⟩
abbrev cX3_seekFewest : ByteArray := prog_5_method_10_code
def yX3_seekFewest : MethodName := ⟨RX3, "seekFewest", "(IIII)V"⟩
abbrev cX3_noteFewest : ByteArray := prog_5_method_11_code
def yX3_noteFewest : MethodName := ⟨RX3, "noteFewest", "(II)V"⟩
abbrev cX3_seekCheapest : ByteArray := prog_5_method_12_code
def yX3_seekCheapest : MethodName := ⟨RX3, "seekCheapest", "(III)V"⟩
abbrev cX3_seekNear : ByteArray := prog_5_method_13_code
def yX3_seekNear : MethodName := ⟨RX3, "seekNear", "(II)V"⟩
abbrev cX3_isShown : ByteArray := prog_5_method_14_code
def yX3_isShown : MethodName := ⟨RX3, "isShown", "(II)Z"⟩
def RX4 : String := "SlidesOverSlides$Tour"
def TX4 : u_T := fun k => match k with
  | 0 => ("SlidesOverSlides$Tour", "stops", "[I", true)
  | 1 => ("SlidesOverSlides$Tour", "shown", "[I", true)
  | _ => ("SlidesOverSlides$Tour", "steps", "[I", true)
def tyX4 : Nat → FieldType := fun k => match k with
  | 0 => .array .int
  | 1 => .array .int
  | _ => .array .int
abbrev wsX40 : List Cond := u_ws RX4 TX4 3
theorem nmX4 : ∀ a, a < 3 → ∀ b, b < 3 → a ≠ b → (TX4 a).2.1 ≠ (TX4 b).2.1 := by decide +kernel
theorem tyX4_ok : ∀ k, k < 3 → parseFieldDescriptor (TX4 k).2.2.1 = some (tyX4 k) := by decide +kernel
abbrev cX4_init : ByteArray := prog_6_method_1_code
def yX4_init : MethodName := ⟨RX4, "<init>", "()V"⟩
abbrev cX4_leastCost : ByteArray := prog_6_method_2_code
def yX4_leastCost : MethodName := ⟨RX4, "leastCost", "(LSlidesOverSlides$Lantern;)I"⟩
abbrev cX4_layAll : ByteArray := prog_6_method_3_code
def yX4_layAll : MethodName := ⟨RX4, "layAll", "(LSlidesOverSlides$Lantern;I)V"⟩
abbrev cX4_findStops : ByteArray := prog_6_method_4_code
def yX4_findStops : MethodName := ⟨RX4, "findStops", "(LSlidesOverSlides$Lantern;I)I"⟩
abbrev cX4_isShownByOne : ByteArray := prog_6_method_5_code
def yX4_isShownByOne : MethodName := ⟨RX4, "isShownByOne", "(II)Z"⟩
abbrev cX4_arrive : ByteArray := prog_6_method_6_code
def yX4_arrive : MethodName := ⟨RX4, "arrive", "(III)V"⟩
abbrev cX4_walk : ByteArray := prog_6_method_7_code
def yX4_walk : MethodName := ⟨RX4, "walk", "(II)V"⟩
abbrev cX4_leastSteps : ByteArray := prog_6_method_8_code
def yX4_leastSteps : MethodName := ⟨RX4, "leastSteps", "(II)I"⟩
def RX5 : String := "SlidesOverSlides"
def TX5 : u_T := fun k => match k with
  | 0 => ("SlidesOverSlides", "now", "LSlidesOverSlides$Lantern;", true)
  | 1 => ("SlidesOverSlides", "mind", "LSlidesOverSlides$Lantern;", true)
  | 2 => ("SlidesOverSlides", "kept", "LSlidesOverSlides$Lantern;", true)
  | 3 => ("SlidesOverSlides", "isKept", "Z", false)
  | 4 => ("SlidesOverSlides", "letters", "LSlidesOverSlides$Letters;", true)
  | 5 => ("SlidesOverSlides", "search", "LSlidesOverSlides$Search;", true)
  | 6 => ("SlidesOverSlides", "tour", "LSlidesOverSlides$Tour;", true)
  | 7 => ("SlidesOverSlides", "rowSets", "[I", true)
  | 8 => ("SlidesOverSlides", "rowSize", "I", false)
  | _ => ("SlidesOverSlides", "refusals", "[I", true)
def tyX5 : Nat → FieldType := fun k => match k with
  | 0 => .object "SlidesOverSlides$Lantern"
  | 1 => .object "SlidesOverSlides$Lantern"
  | 2 => .object "SlidesOverSlides$Lantern"
  | 3 => .boolean
  | 4 => .object "SlidesOverSlides$Letters"
  | 5 => .object "SlidesOverSlides$Search"
  | 6 => .object "SlidesOverSlides$Tour"
  | 7 => .array .int
  | 8 => .int
  | _ => .array .int
abbrev wsX50 : List Cond := u_ws RX5 TX5 10
theorem nmX5 : ∀ a, a < 10 → ∀ b, b < 10 → a ≠ b → (TX5 a).2.1 ≠ (TX5 b).2.1 := by decide +kernel
theorem tyX5_ok : ∀ k, k < 10 → parseFieldDescriptor (TX5 k).2.2.1 = some (tyX5 k) := by decide +kernel
abbrev cX5_init : ByteArray := prog_1_method_1_code
def yX5_init : MethodName := ⟨RX5, "<init>", "()V"⟩
abbrev cX5_feed : ByteArray := prog_1_method_2_code
def yX5_feed : MethodName := ⟨RX5, "feed", "(I)I"⟩
abbrev cX5_lantern : ByteArray := prog_1_method_3_code
def yX5_lantern : MethodName := ⟨RX5, "lantern", "()I"⟩
abbrev cX5_slide : ByteArray := prog_1_method_4_code
def yX5_slide : MethodName := ⟨RX5, "slide", "(II)I"⟩
abbrev cX5_wanted : ByteArray := prog_1_method_5_code
def yX5_wanted : MethodName := ⟨RX5, "wanted", "(I)I"⟩
abbrev cX5_heat : ByteArray := prog_1_method_6_code
def yX5_heat : MethodName := ⟨RX5, "heat", "(I)I"⟩
abbrev cX5_price : ByteArray := prog_1_method_7_code
def yX5_price : MethodName := ⟨RX5, "price", "(II)I"⟩
abbrev cX5_lay : ByteArray := prog_1_method_8_code
def yX5_lay : MethodName := ⟨RX5, "lay", "(II)I"⟩
abbrev cX5_project : ByteArray := prog_1_method_9_code
def yX5_project : MethodName := ⟨RX5, "project", "(I)I"⟩
abbrev cX5_gaps : ByteArray := prog_1_method_10_code
def yX5_gaps : MethodName := ⟨RX5, "gaps", "(II)I"⟩
abbrev cX5_nearest : ByteArray := prog_1_method_11_code
def yX5_nearest : MethodName := ⟨RX5, "nearest", "(II)I"⟩
abbrev cX5_fewest : ByteArray := prog_1_method_12_code
def yX5_fewest : MethodName := ⟨RX5, "fewest", "(II)I"⟩
abbrev cX5_cheapest : ByteArray := prog_1_method_13_code
def yX5_cheapest : MethodName := ⟨RX5, "cheapest", "(I)I"⟩
abbrev cX5_near : ByteArray := prog_1_method_14_code
def yX5_near : MethodName := ⟨RX5, "near", "(I)I"⟩
abbrev cX5_can : ByteArray := prog_1_method_15_code
def yX5_can : MethodName := ⟨RX5, "can", "(I)I"⟩
abbrev cX5_worth : ByteArray := prog_1_method_16_code
def yX5_worth : MethodName := ⟨RX5, "worth", "(I)I"⟩
abbrev cX5_sure : ByteArray := prog_1_method_17_code
def yX5_sure : MethodName := ⟨RX5, "sure", "(III)I"⟩
abbrev cX5_who : ByteArray := prog_1_method_18_code
def yX5_who : MethodName := ⟨RX5, "who", "(III)I"⟩
abbrev cX5_dust : ByteArray := prog_1_method_19_code
def yX5_dust : MethodName := ⟨RX5, "dust", "(III)J"⟩
abbrev cX5_round : ByteArray := prog_1_method_20_code
def yX5_round : MethodName := ⟨RX5, "round", "()I"⟩
abbrev cX5_row : ByteArray := prog_1_method_21_code
def yX5_row : MethodName := ⟨RX5, "row", "(I)I"⟩
abbrev cX5_judge : ByteArray := prog_1_method_22_code
def yX5_judge : MethodName := ⟨RX5, "judge", "()I"⟩
abbrev cX5_seeds : ByteArray := prog_1_method_23_code
def yX5_seeds : MethodName := ⟨RX5, "seeds", "(II)I"⟩
abbrev cX5_image : ByteArray := prog_1_method_24_code
def yX5_image : MethodName := ⟨RX5, "image", "()I"⟩
abbrev cX5_restore : ByteArray := prog_1_method_25_code
def yX5_restore : MethodName := ⟨RX5, "restore", "()I"⟩
abbrev cX5_count : ByteArray := prog_1_method_26_code
def yX5_count : MethodName := ⟨RX5, "count", "(I)I"⟩
abbrev cX5_refused : ByteArray := prog_1_method_27_code
def yX5_refused : MethodName := ⟨RX5, "refused", "(I)I"⟩
abbrev cX5_first : ByteArray := prog_1_method_28_code
def yX5_first : MethodName := ⟨RX5, "first", "(II)I"⟩
abbrev cX5_wrongSlide : ByteArray := prog_1_method_29_code
def yX5_wrongSlide : MethodName := ⟨RX5, "wrongSlide", "(I)I"⟩
abbrev cX5_wrongSet : ByteArray := prog_1_method_30_code
def yX5_wrongSet : MethodName := ⟨RX5, "wrongSet", "(I)I"⟩
abbrev cX5_wrongWhat : ByteArray := prog_1_method_31_code
def yX5_wrongWhat : MethodName := ⟨RX5, "wrongWhat", "(II)I"⟩
abbrev cX5_wrongNumber : ByteArray := prog_1_method_32_code
def yX5_wrongNumber : MethodName := ⟨RX5, "wrongNumber", "(III)I"⟩
abbrev cX5_wrongAsked : ByteArray := prog_1_method_33_code
def yX5_wrongAsked : MethodName := ⟨RX5, "wrongAsked", "(III)I"⟩
abbrev cX5_power : ByteArray := prog_1_method_34_code
def yX5_power : MethodName := ⟨RX5, "power", "(II)J"⟩
abbrev cX5_nextSeed : ByteArray := prog_1_method_35_code
def yX5_nextSeed : MethodName := ⟨RX5, "nextSeed", "(I)I"⟩
abbrev cX5_drawBelow : ByteArray := prog_1_method_36_code
def yX5_drawBelow : MethodName := ⟨RX5, "drawBelow", "(II)I"⟩
def RX6 : String := "SlidesOverSlidesModel"
def TX6 : u_T := fun k => match k with
  | 0 => ("SlidesOverSlidesModel", "refused", "[I", true)
  | 1 => ("SlidesOverSlidesModel", "kind", "[I", true)
  | 2 => ("SlidesOverSlidesModel", "figure", "[I", true)
  | 3 => ("SlidesOverSlidesModel", "painted", "[I", true)
  | 4 => ("SlidesOverSlidesModel", "price", "[I", true)
  | 5 => ("SlidesOverSlidesModel", "uses", "[I", true)
  | 6 => ("SlidesOverSlidesModel", "wanted", "[I", true)
  | 7 => ("SlidesOverSlidesModel", "slides", "I", false)
  | 8 => ("SlidesOverSlidesModel", "wishes", "I", false)
  | 9 => ("SlidesOverSlidesModel", "heat", "I", false)
  | 10 => ("SlidesOverSlidesModel", "tape", "[I", true)
  | 11 => ("SlidesOverSlidesModel", "letter", "[I", true)
  | 12 => ("SlidesOverSlidesModel", "letterAt", "[I", true)
  | 13 => ("SlidesOverSlidesModel", "told", "[I", true)
  | 14 => ("SlidesOverSlidesModel", "taped", "I", false)
  | 15 => ("SlidesOverSlidesModel", "at", "I", false)
  | 16 => ("SlidesOverSlidesModel", "statements", "I", false)
  | 17 => ("SlidesOverSlidesModel", "kept", "[I", true)
  | 18 => ("SlidesOverSlidesModel", "hasImage", "Z", false)
  | 19 => ("SlidesOverSlidesModel", "isKeeping", "Z", false)
  | 20 => ("SlidesOverSlidesModel", "cursor", "I", false)
  | 21 => ("SlidesOverSlidesModel", "fewestMany", "I", false)
  | 22 => ("SlidesOverSlidesModel", "fewestSet", "I", false)
  | 23 => ("SlidesOverSlidesModel", "fewestOver", "I", false)
  | 24 => ("SlidesOverSlidesModel", "fewestWays", "I", false)
  | 25 => ("SlidesOverSlidesModel", "cheapest", "I", false)
  | 26 => ("SlidesOverSlidesModel", "nearness", "I", false)
  | 27 => ("SlidesOverSlidesModel", "cost", "[I", true)
  | 28 => ("SlidesOverSlidesModel", "shows", "[I", true)
  | 29 => ("SlidesOverSlidesModel", "asked", "[I", true)
  | 30 => ("SlidesOverSlidesModel", "row", "[I", true)
  | _ => ("SlidesOverSlidesModel", "rowMany", "I", false)
def tyX6 : Nat → FieldType := fun k => match k with
  | 0 => .array .int
  | 1 => .array .int
  | 2 => .array .int
  | 3 => .array .int
  | 4 => .array .int
  | 5 => .array .int
  | 6 => .array .int
  | 7 => .int
  | 8 => .int
  | 9 => .int
  | 10 => .array .int
  | 11 => .array .int
  | 12 => .array .int
  | 13 => .array .int
  | 14 => .int
  | 15 => .int
  | 16 => .int
  | 17 => .array .int
  | 18 => .boolean
  | 19 => .boolean
  | 20 => .int
  | 21 => .int
  | 22 => .int
  | 23 => .int
  | 24 => .int
  | 25 => .int
  | 26 => .int
  | 27 => .array .int
  | 28 => .array .int
  | 29 => .array .int
  | 30 => .array .int
  | _ => .int
abbrev wsX60 : List Cond := u_ws RX6 TX6 32
theorem nmX6 : ∀ a, a < 32 → ∀ b, b < 32 → a ≠ b → (TX6 a).2.1 ≠ (TX6 b).2.1 := by decide +kernel
theorem tyX6_ok : ∀ k, k < 32 → parseFieldDescriptor (TX6 k).2.2.1 = some (tyX6 k) := by decide +kernel
abbrev cX6_init : ByteArray := prog_8_method_1_code
def yX6_init : MethodName := ⟨RX6, "<init>", "()V"⟩
abbrev cX6_no : ByteArray := prog_8_method_2_code
def yX6_no : MethodName := ⟨RX6, "no", "(I)I"⟩
abbrev cX6_lowest : ByteArray := prog_8_method_3_code
def yX6_lowest : MethodName := ⟨RX6, "lowest", "(I)J"⟩
abbrev cX6_isIn : ByteArray := prog_8_method_4_code
def yX6_isIn : MethodName := ⟨RX6, "isIn", "(III)Z"⟩
abbrev cX6_bound : ByteArray := prog_8_method_5_code
def yX6_bound : MethodName := ⟨RX6, "bound", "(III)I"⟩
abbrev cX6_isSlide : ByteArray := prog_8_method_6_code
def yX6_isSlide : MethodName := ⟨RX6, "isSlide", "(I)Z"⟩
abbrev cX6_areSlides : ByteArray := prog_8_method_7_code
def yX6_areSlides : MethodName := ⟨RX6, "areSlides", "(I)Z"⟩
abbrev cX6_feed : ByteArray := prog_8_method_8_code
def yX6_feed : MethodName := ⟨RX6, "feed", "(I)I"⟩
abbrev cX6_next : ByteArray := prog_8_method_9_code
def yX6_next : MethodName := ⟨RX6, "next", "()I"⟩
abbrev cX6_readsNumber : ByteArray := prog_8_method_10_code
def yX6_readsNumber : MethodName := ⟨RX6, "readsNumber", "(II)Z"⟩
abbrev cX6_readsPicture : ByteArray := prog_8_method_11_code
def yX6_readsPicture : MethodName := ⟨RX6, "readsPicture", "(I)Z"⟩
abbrev cX6_readsSlide : ByteArray := prog_8_method_12_code
def yX6_readsSlide : MethodName := ⟨RX6, "readsSlide", "(I)Z"⟩
abbrev cX6_statement : ByteArray := prog_8_method_13_code
def yX6_statement : MethodName := ⟨RX6, "statement", "()Z"⟩
abbrev cX6_comes : ByteArray := prog_8_method_14_code
def yX6_comes : MethodName := ⟨RX6, "comes", "(I)Z"⟩
abbrev cX6_lantern : ByteArray := prog_8_method_15_code
def yX6_lantern : MethodName := ⟨RX6, "lantern", "()I"⟩
abbrev cX6_passes : ByteArray := prog_8_method_16_code
def yX6_passes : MethodName := ⟨RX6, "passes", "([I)V"⟩
abbrev cX6_passOne : ByteArray := prog_8_method_17_code
def yX6_passOne : MethodName := ⟨RX6, "passOne", "(I)I"⟩
abbrev cX6_passesAll : ByteArray := prog_8_method_18_code
def yX6_passesAll : MethodName := ⟨RX6, "passesAll", "(IZ)V"⟩
abbrev cX6_image : ByteArray := prog_8_method_19_code
def yX6_image : MethodName := ⟨RX6, "image", "()I"⟩
abbrev cX6_restore : ByteArray := prog_8_method_20_code
def yX6_restore : MethodName := ⟨RX6, "restore", "()I"⟩
abbrev cX6_bits : ByteArray := prog_8_method_21_code
def yX6_bits : MethodName := ⟨RX6, "bits", "(I)I"⟩
abbrev cX6_mirrored : ByteArray := prog_8_method_22_code
def yX6_mirrored : MethodName := ⟨RX6, "mirrored", "(I)I"⟩
abbrev cX6_upsideDown : ByteArray := prog_8_method_23_code
def yX6_upsideDown : MethodName := ⟨RX6, "upsideDown", "(I)I"⟩
abbrev cX6_shifted : ByteArray := prog_8_method_24_code
def yX6_shifted : MethodName := ⟨RX6, "shifted", "(II)I"⟩
abbrev cX6_onSlide : ByteArray := prog_8_method_25_code
def yX6_onSlide : MethodName := ⟨RX6, "onSlide", "(I)I"⟩
abbrev cX6_laid : ByteArray := prog_8_method_26_code
def yX6_laid : MethodName := ⟨RX6, "laid", "(II)I"⟩
abbrev cX6_slide : ByteArray := prog_8_method_27_code
def yX6_slide : MethodName := ⟨RX6, "slide", "(II)I"⟩
abbrev cX6_wanted : ByteArray := prog_8_method_28_code
def yX6_wanted : MethodName := ⟨RX6, "wanted", "(I)I"⟩
abbrev cX6_heat : ByteArray := prog_8_method_29_code
def yX6_heat : MethodName := ⟨RX6, "heat", "(I)I"⟩
abbrev cX6_price : ByteArray := prog_8_method_30_code
def yX6_price : MethodName := ⟨RX6, "price", "(II)I"⟩
abbrev cX6_lay : ByteArray := prog_8_method_31_code
def yX6_lay : MethodName := ⟨RX6, "lay", "(II)I"⟩
abbrev cX6_projects : ByteArray := prog_8_method_32_code
def yX6_projects : MethodName := ⟨RX6, "projects", "(I)I"⟩
abbrev cX6_isShow : ByteArray := prog_8_method_33_code
def yX6_isShow : MethodName := ⟨RX6, "isShow", "(I)Z"⟩
abbrev cX6_project : ByteArray := prog_8_method_34_code
def yX6_project : MethodName := ⟨RX6, "project", "(I)I"⟩
abbrev cX6_groups : ByteArray := prog_8_method_35_code
def yX6_groups : MethodName := ⟨RX6, "groups", "(I)I"⟩
abbrev cX6_gaps : ByteArray := prog_8_method_36_code
def yX6_gaps : MethodName := ⟨RX6, "gaps", "(II)I"⟩
abbrev cX6_nearest : ByteArray := prog_8_method_37_code
def yX6_nearest : MethodName := ⟨RX6, "nearest", "(II)I"⟩
abbrev cX6_pricesOf : ByteArray := prog_8_method_38_code
def yX6_pricesOf : MethodName := ⟨RX6, "pricesOf", "(I)I"⟩
abbrev cX6_findShown : ByteArray := prog_8_method_39_code
def yX6_findShown : MethodName := ⟨RX6, "findShown", "(I)V"⟩
abbrev cX6_tellsShown : ByteArray := prog_8_method_40_code
def yX6_tellsShown : MethodName := ⟨RX6, "tellsShown", "(III)V"⟩
abbrev cX6_fewest : ByteArray := prog_8_method_41_code
def yX6_fewest : MethodName := ⟨RX6, "fewest", "(II)I"⟩
abbrev cX6_cheapest : ByteArray := prog_8_method_42_code
def yX6_cheapest : MethodName := ⟨RX6, "cheapest", "(I)I"⟩
abbrev cX6_near : ByteArray := prog_8_method_43_code
def yX6_near : MethodName := ⟨RX6, "near", "(I)I"⟩
abbrev cX6_canWithout : ByteArray := prog_8_method_44_code
def yX6_canWithout : MethodName := ⟨RX6, "canWithout", "(I)I"⟩
abbrev cX6_can : ByteArray := prog_8_method_45_code
def yX6_can : MethodName := ⟨RX6, "can", "(I)I"⟩
abbrev cX6_worth : ByteArray := prog_8_method_46_code
def yX6_worth : MethodName := ⟨RX6, "worth", "(I)I"⟩
abbrev cX6_notAsked : ByteArray := prog_8_method_47_code
def yX6_notAsked : MethodName := ⟨RX6, "notAsked", "(IIII)I"⟩
abbrev cX6_sure : ByteArray := prog_8_method_48_code
def yX6_sure : MethodName := ⟨RX6, "sure", "(III)I"⟩
abbrev cX6_who : ByteArray := prog_8_method_49_code
def yX6_who : MethodName := ⟨RX6, "who", "(III)I"⟩
abbrev cX6_divisor : ByteArray := prog_8_method_50_code
def yX6_divisor : MethodName := ⟨RX6, "divisor", "(JJ)J"⟩
abbrev cX6_dust : ByteArray := prog_8_method_51_code
def yX6_dust : MethodName := ⟨RX6, "dust", "(III)J"⟩
abbrev cX6_findAsked : ByteArray := prog_8_method_52_code
def yX6_findAsked : MethodName := ⟨RX6, "findAsked", "()I"⟩
abbrev cX6_placeOf : ByteArray := prog_8_method_53_code
def yX6_placeOf : MethodName := ⟨RX6, "placeOf", "(III)I"⟩
abbrev cX6_lowers : ByteArray := prog_8_method_54_code
def yX6_lowers : MethodName := ⟨RX6, "lowers", "(II)V"⟩
abbrev cX6_goesFrom : ByteArray := prog_8_method_55_code
def yX6_goesFrom : MethodName := ⟨RX6, "goesFrom", "(IIII)V"⟩
abbrev cX6_round : ByteArray := prog_8_method_56_code
def yX6_round : MethodName := ⟨RX6, "round", "()I"⟩
abbrev cX6_row : ByteArray := prog_8_method_57_code
def yX6_row : MethodName := ⟨RX6, "row", "(I)I"⟩
abbrev cX6_isWish : ByteArray := prog_8_method_58_code
def yX6_isWish : MethodName := ⟨RX6, "isWish", "(I)Z"⟩
abbrev cX6_judge : ByteArray := prog_8_method_59_code
def yX6_judge : MethodName := ⟨RX6, "judge", "()I"⟩
abbrev cX6_seeds : ByteArray := prog_8_method_60_code
def yX6_seeds : MethodName := ⟨RX6, "seeds", "(II)I"⟩
abbrev cX6_count : ByteArray := prog_8_method_61_code
def yX6_count : MethodName := ⟨RX6, "count", "(I)I"⟩
def RJ6 : String := "java/lang/Integer"
def TJ6 : u_T := fun k => match k with
  | _ => ("", "", "", false)
def tyJ6 : Nat → FieldType := fun k => match k with
  | _ => .int
abbrev wsJ60 : List Cond := u_ws RJ6 TJ6 0
theorem nmJ6 : ∀ a, a < 0 → ∀ b, b < 0 → a ≠ b → (TJ6 a).2.1 ≠ (TJ6 b).2.1 := by decide +kernel
theorem tyJ6_ok : ∀ k, k < 0 → parseFieldDescriptor (TJ6 k).2.2.1 = some (tyJ6 k) := by decide +kernel
abbrev cJ6_bitCount_0f7a4 : ByteArray := prog_9_method_49_code
def yJ6_bitCount_0f7a4 : MethodName := ⟨RJ6, "bitCount", "(I)I"⟩
def RJ9 : String := "java/lang/Math"
def TJ9 : u_T := fun k => match k with
  | _ => ("", "", "", false)
def tyJ9 : Nat → FieldType := fun k => match k with
  | _ => .int
abbrev wsJ90 : List Cond := u_ws RJ9 TJ9 0
theorem nmJ9 : ∀ a, a < 0 → ∀ b, b < 0 → a ≠ b → (TJ9 a).2.1 ≠ (TJ9 b).2.1 := by decide +kernel
theorem tyJ9_ok : ∀ k, k < 0 → parseFieldDescriptor (TJ9 k).2.2.1 = some (tyJ9 k) := by decide +kernel
abbrev cJ9_min_7cf53 : ByteArray := prog_10_method_69_code
def yJ9_min_7cf53 : MethodName := ⟨RJ9, "min", "(II)I"⟩
def RL : String := "SlidesOverSlidesLaw"
abbrev cL_law : ByteArray := code
abbrev vwCl : List vw_C := [(RX1, TX1, 9), (RX2, TX2, 2), (RX3, TX3, 11), (RX4, TX4, 3), (RX5, TX5, 10), (RX6, TX6, 32)]
end
section
/-! THE ABSTRACT MACHINE. A world is a list of cells; a reference is a cell's place in its world. A method's contract is an impredicative closure: no address, no table, no frame of the real machine stands in it. -/
abbrev xE : Type := (Nat × (Nat → Int32)) ⊕ (Nat × List Value)
abbrev xH : Type := List xE
abbrev xL : Type := List (Option Value)
/-- an instruction, its length, its numbers (a constant's value; targets; a field's class, slot, type; a callee's number), its long -/
abbrev xI : Type := Instr × Nat × List (Int32 × Nat) × Int64
abbrev xT : Type := List (Nat × xI)
/-- a class: its name, its fields by pool number (class number, slot, type), its constants, its longs, its callees -/
abbrev xC : Type := String × List (Nat × Nat × Nat × Nat) × List (Nat × Int32) × List (Nat × Int64) × List (Nat × Nat)
/-- a method: its name, bytes, locals, answer, instructions, its class, whether it is static -/
abbrev xM : Type := MethodName × ByteArray × Nat × Option FieldType × xT × xC × Bool
abbrev xK : Type := Nat → xL → List Value → xH → Prop
def xnth {α : Type} : List α → Nat → Option α
  | [], _ => none
  | a :: _, 0 => some a
  | _ :: t, k + 1 => xnth t k
theorem xnth_eq {α : Type} : ∀ (l : List α) (k : Nat), xnth l k = l[k]?
  | [], _ => by simp [xnth]
  | _ :: _, 0 => by simp [xnth]
  | _ :: t, k + 1 => by simp [xnth, xnth_eq t k]
def xlk {α : Type} : List (Nat × α) → Nat → Option α
  | [], _ => none
  | (i, a) :: t, k => cond (Nat.beq i k) (some a) (xlk t k)
theorem xlk_mem {α : Type} : ∀ {l : List (Nat × α)} {k : Nat} {a : α}, xlk l k = some a → (k, a) ∈ l
  | [], _, _, h => by simp [xlk] at h
  | (i, b) :: t, k, a, h => by
    unfold xlk at h
    cases hb : Nat.beq i k with
    | true =>
      rw [hb] at h
      simp only [cond_true, Option.some.injEq] at h
      have e := Nat.eq_of_beq_eq_true hb
      subst e; subst h
      exact List.mem_cons_self
    | false =>
      rw [hb] at h
      simp only [cond_false] at h
      exact List.mem_cons_of_mem _ (xlk_mem h)
def xcat (st : List Value) : Nat := (st.map fun v => v.category).sum
/-- the place before holds no value of two slots -/
def xprev (loc : xL) : Nat → Bool
  | 0 => true
  | j + 1 => match xnth loc j with
    | some (some v) => Nat.beq v.category 1
    | _ => true
def xst1 (loc : xL) (i : Nat) (v : Value) (k : xL → Prop) : Prop := match xprev loc i, xnth loc i with
  | true, some _ => k (loc.set i (some v))
  | _, _ => False
def xst2 (loc : xL) (i : Nat) (v : Value) (k : xL → Prop) : Prop := match xprev loc i, xnth loc (i + 1) with
  | true, some _ => k ((loc.set i (some v)).set (i + 1) none)
  | _, _ => False
def xbr (c a b : Prop) : Prop := (c → a) ∧ (¬ c → b)
def xbn (c a b : Prop) : Prop := (¬ c → a) ∧ (c → b)
def xsw (x : Int32) (k : Nat → Prop) (d : Nat) : List (Int32 × Nat) → Prop
  | [] => k d
  | (key, t) :: r => (x = key → k t) ∧ (¬ x = key → xsw x k d r)
def xcmp (c : ClassFile.Cond) (x y : Int32) (a b : Prop) : Prop := match c with
  | .eq => xbr (x = y) a b
  | .ne => xbn (x = y) a b
  | .lt => xbr (x < y) a b
  | .ge => xbr (y ≤ x) a b
  | .gt => xbr (y < x) a b
  | .le => xbr (x ≤ y) a b
def xii (st : List Value) (f : Int32 → Int32 → List Value → Prop) : Prop := match st with
  | .int y :: .int x :: r => f x y r
  | _ => False
def xll (st : List Value) (f : Int64 → Int64 → List Value → Prop) : Prop := match st with
  | .long y :: .long x :: r => f x y r
  | _ => False
def xiload (loc : xL) (j : Nat) (f : Value → Prop) : Prop := match xnth loc j with
  | some (some (.int x)) => f (.int x)
  | _ => False
def xaload (loc : xL) (j : Nat) (f : Value → Prop) : Prop := match xnth loc j with
  | some (some (.ref x)) => f (.ref x)
  | _ => False
def xlload (loc : xL) (j : Nat) (f : Value → Prop) : Prop := match xnth loc j with
  | some (some (.long x)) => f (.long x)
  | _ => False
def xistore (loc : xL) (st : List Value) (j : Nat) (f : xL → List Value → Prop) : Prop := match st with
  | .int x :: r => xst1 loc j (.int x) (fun l => f l r)
  | _ => False
def xlstore (loc : xL) (st : List Value) (j : Nat) (f : xL → List Value → Prop) : Prop := match st with
  | .long x :: r => xst2 loc j (.long x) (fun l => f l r)
  | _ => False
def xcon (an : List (Int32 × Nat)) (f : Int32 → Prop) : Prop := match an with
  | (v, _) :: _ => f v
  | _ => False
def xtgt (an : List (Int32 × Nat)) (f : Nat → Prop) : Prop := match an with
  | (_, t) :: _ => f t
  | _ => False
def xgetf (an : List (Int32 × Nat)) (st : List Value) (ws : xH) (f : Value → List Value → Prop) : Prop := match an, st with
  | (_, ci) :: (_, sl) :: _, .ref a :: r => match xnth ws a with
    | some (.inr (c, fs)) => match Nat.beq c ci, xnth fs sl with
      | true, some v => f v r
      | _, _ => False
    | _ => False
  | _, _ => False
def xputf (an : List (Int32 × Nat)) (st : List Value) (ws : xH) (f : List Value → xH → Prop) : Prop := match an, st with
  | (_, ci) :: (_, sl) :: (_, ty) :: _, .int x :: .ref a :: r => match xnth ws a with
    | some (.inr (c, fs)) => match Nat.beq c ci, xnth fs sl, ty with
      | true, some _, 0 => f r (ws.set a (.inr (c, fs.set sl (.int x))))
      | true, some _, 1 => (x = 0 ∨ x = 1) ∧ f r (ws.set a (.inr (c, fs.set sl (.int x))))
      | _, _, _ => False
    | _ => False
  | _, _ => False
def xiald (st : List Value) (ws : xH) (f : Value → List Value → Prop) : Prop := match st with
  | .int i :: .ref a :: r => match xnth ws a with
    | some (.inl (n, g)) => vp_in i n ∧ f (.int (g i.toNatClampNeg)) r
    | _ => False
  | _ => False
def xiast (st : List Value) (ws : xH) (f : List Value → xH → Prop) : Prop := match st with
  | .int x :: .int i :: .ref a :: r => match xnth ws a with
    | some (.inl (n, g)) => vp_in i n ∧ f r (ws.set a (.inl (n, upd g i.toNatClampNeg x)))
    | _ => False
  | _ => False
def xalen (st : List Value) (ws : xH) (f : Value → List Value → Prop) : Prop := match st with
  | .ref a :: r => match xnth ws a with
    | some (.inl (n, _)) => f (.int (Int32.ofNat n)) r
    | _ => False
  | _ => False
def xdup (st : List Value) (f : List Value → Prop) : Prop := match st with
  | .int x :: r => f (.int x :: .int x :: r)
  | .ref x :: r => f (.ref x :: .ref x :: r)
  | _ => False
def xdup2 (st : List Value) (f : List Value → Prop) : Prop := match st with
  | .int x :: .ref y :: r => f (.int x :: .ref y :: .int x :: .ref y :: r)
  | _ => False
/-- Math.min, where the numbers say so -/
def xmin (an : List (Int32 × Nat)) (st : List Value) (f : List Value → Prop) (d : Prop) : Prop := match an with
  | (_, _) :: _ :: _ => match st with
    | .int y :: .int x :: r => match Nat.ble (xcat r) 8 with
      | true => f (.int (if y < x then y else x) :: r)
      | false => False
    | _ => False
  | _ => d
def xcnd (an : List (Int32 × Nat)) (st : List Value) (f : Int32 → List Value → Nat → Prop) : Prop := match an, st with
  | (_, t) :: _, .int x :: r => f x r t
  | _, _ => False
def xcnd2 (an : List (Int32 × Nat)) (st : List Value) (f : Int32 → Int32 → List Value → Nat → Prop) : Prop := match an, st with
  | (_, t) :: _, .int y :: .int x :: r => f x y r t
  | _, _ => False
def xswi (an : List (Int32 × Nat)) (st : List Value) (f : Int32 → List Value → Nat → List (Int32 × Nat) → Prop) : Prop := match an, st with
  | (_, d) :: cs, .int x :: r => f x r d cs
  | _, _ => False
def xi2l (st : List Value) (f : List Value → Prop) : Prop := match st with
  | .int x :: r => f (.long x.toInt64 :: r)
  | _ => False
def xineg (st : List Value) (f : List Value → Prop) : Prop := match st with
  | .int x :: r => f (.int (-x) :: r)
  | _ => False
/-- one instruction that is no call and no return: what must hold so that the machine goes on to k -/
def xstep (i : xI) (pc : Nat) (loc : xL) (st : List Value) (ws : xH) (k : xK) (dflt : Prop) : Prop :=
  match i with
  | (op, n, an, jl) => match op with
    | .aload_n j => xaload loc j.val (fun v => k (pc + n) loc (v :: st) ws)
    | .aload j => xaload loc j (fun v => k (pc + n) loc (v :: st) ws)
    | .iload_n j => xiload loc j.val (fun v => k (pc + n) loc (v :: st) ws)
    | .iload j => xiload loc j (fun v => k (pc + n) loc (v :: st) ws)
    | .lload_n j => xlload loc j.val (fun v => k (pc + n) loc (v :: st) ws)
    | .lload j => xlload loc j (fun v => k (pc + n) loc (v :: st) ws)
    | .istore_n j => xistore loc st j.val (fun l r => k (pc + n) l r ws)
    | .istore j => xistore loc st j (fun l r => k (pc + n) l r ws)
    | .lstore_n j => xlstore loc st j.val (fun l r => k (pc + n) l r ws)
    | .lstore j => xlstore loc st j (fun l r => k (pc + n) l r ws)
    | .iinc j _ => match xnth loc j with
      | some (some (.int x)) => xcon an (fun v => xst1 loc j (.int (x + v)) (fun l => k (pc + n) l st ws))
      | _ => False
    | .iconst _ => xcon an (fun v => k (pc + n) loc (.int v :: st) ws)
    | .bipush _ => xcon an (fun v => k (pc + n) loc (.int v :: st) ws)
    | .sipush _ => xcon an (fun v => k (pc + n) loc (.int v :: st) ws)
    | .ldc _ => xcon an (fun v => k (pc + n) loc (.int v :: st) ws)
    | .ldc_w _ => xcon an (fun v => k (pc + n) loc (.int v :: st) ws)
    | .lconst _ => k (pc + n) loc (.long jl :: st) ws
    | .ldc2_w _ => k (pc + n) loc (.long jl :: st) ws
    | .iadd => xii st (fun x y r => k (pc + n) loc (.int (x + y) :: r) ws)
    | .isub => xii st (fun x y r => k (pc + n) loc (.int (x - y) :: r) ws)
    | .imul => xii st (fun x y r => k (pc + n) loc (.int (x * y) :: r) ws)
    | .iand => xii st (fun x y r => k (pc + n) loc (.int (x &&& y) :: r) ws)
    | .ior => xii st (fun x y r => k (pc + n) loc (.int (x ||| y) :: r) ws)
    | .ixor => xii st (fun x y r => k (pc + n) loc (.int (x ^^^ y) :: r) ws)
    | .idiv => xii st (fun x y r => ¬ y = 0 ∧ k (pc + n) loc (.int (x / y) :: r) ws)
    | .irem => xii st (fun x y r => ¬ y = 0 ∧ k (pc + n) loc (.int (x - x / y * y) :: r) ws)
    | .ishl => xii st (fun x y r => k (pc + n) loc (.int (x <<< (y &&& 31)) :: r) ws)
    | .ishr => xii st (fun x y r => k (pc + n) loc (.int (x >>> (y &&& 31)) :: r) ws)
    | .iushr => xii st (fun x y r => k (pc + n) loc (.int ((x.toUInt32 >>> (y.toUInt32 &&& Int32.toUInt32 31)).toInt32) :: r) ws)
    | .ineg => xineg st (fun r => k (pc + n) loc r ws)
    | .i2l => xi2l st (fun r => k (pc + n) loc r ws)
    | .lsub => xll st (fun x y r => k (pc + n) loc (.long (x - y) :: r) ws)
    | .lmul => xll st (fun x y r => k (pc + n) loc (.long (x * y) :: r) ws)
    | .ldiv => xll st (fun x y r => ¬ y = 0 ∧ k (pc + n) loc (.long (x / y) :: r) ws)
    | .lrem => xll st (fun x y r => ¬ y = 0 ∧ k (pc + n) loc (.long (x - x / y * y) :: r) ws)
    | .lcmp => xll st (fun x y r => k (pc + n) loc (.int (lg_cmp x y) :: r) ws)
    | .dup => xdup st (fun r => k (pc + n) loc r ws)
    | .dup2 => xdup2 st (fun r => k (pc + n) loc r ws)
    | .getfield _ => xgetf an st ws (fun v r => k (pc + n) loc (v :: r) ws)
    | .putfield _ => xputf an st ws (fun r w => k (pc + n) loc r w)
    | .iaload => xiald st ws (fun v r => k (pc + n) loc (v :: r) ws)
    | .iastore => xiast st ws (fun r w => k (pc + n) loc r w)
    | .arraylength => xalen st ws (fun v r => k (pc + n) loc (v :: r) ws)
    | .goto _ => xtgt an (fun t => k t loc st ws)
    | .ifCond c _ => xcnd an st (fun x r t => xcmp c x 0 (k t loc r ws) (k (pc + n) loc r ws))
    | .if_icmp c _ => xcnd2 an st (fun x y r t => xcmp c x y (k t loc r ws) (k (pc + n) loc r ws))
    | .tableswitch _ _ _ _ => xswi an st (fun x r d cs => xsw x (fun t => k t loc r ws) d cs)
    | .lookupswitch _ _ => xswi an st (fun x r d cs => xsw x (fun t => k t loc r ws) d cs)
    | .invokestatic _ => xmin an st (fun r => k (pc + n) loc r ws) dflt
    | _ => dflt
/-- many instructions: as far as a call, a return, a place to stop at, or the fuel goes -/
def xwp (tb : xT) (stops : List Nat) (G : xK) : Nat → xK
  | 0 => G
  | f + 1 => fun pc loc st ws => match xlk tb pc with
    | none => False
    | some i => xstep i pc loc st ws (fun pc' loc' st' ws' => match stops.any (fun s => Nat.beq s pc') with
      | true => G pc' loc' st' ws'
      | false => xwp tb stops G f pc' loc' st' ws') (G pc loc st ws)
/-- numbers that an instruction bears are its own -/
def xok (K : xC) (pc : Nat) (i : xI) : Bool := match i with
  | (op, n, an, jl) => match op with
    | .aload_n _ | .iload_n _ | .lload_n _ | .istore_n _ | .lstore_n _ => Nat.beq n 1
    | .aload _ | .iload _ | .lload _ | .istore _ | .lstore _ => Nat.beq n 2
    | .iinc _ c => Nat.beq n 3 && match an with
      | (v, _) :: _ => decide (Int32.ofInt c = v)
      | _ => false
    | .iconst c => Nat.beq n 1 && match an with
      | (v, _) :: _ => decide (Int32.ofInt c = v)
      | _ => false
    | .bipush c => Nat.beq n 2 && match an with
      | (v, _) :: _ => decide ((Int8.ofInt c).toInt32 = v)
      | _ => false
    | .sipush c => Nat.beq n 3 && match an with
      | (v, _) :: _ => decide ((Int16.ofInt c).toInt32 = v)
      | _ => false
    | .ldc x => Nat.beq n 2 && match an with
      | (v, _) :: _ => decide (xlk K.2.2.1 x = some v)
      | _ => false
    | .ldc_w x => Nat.beq n 3 && match an with
      | (v, _) :: _ => decide (xlk K.2.2.1 x = some v)
      | _ => false
    | .lconst c => Nat.beq n 1 && decide (Int64.ofNat (c : Nat) = jl)
    | .ldc2_w x => Nat.beq n 3 && decide (xlk K.2.2.2.1 x = some jl)
    | .iadd | .isub | .imul | .iand | .ior | .ixor | .idiv | .irem | .ishl | .ishr | .iushr | .ineg | .i2l | .lsub | .lmul | .ldiv | .lrem | .lcmp | .dup | .dup2 | .iaload | .iastore | .arraylength => Nat.beq n 1
    | .getfield x => Nat.beq n 3 && match an with
      | (_, ci) :: (_, sl) :: (_, ty) :: _ => decide (xlk K.2.1 x = some (ci, sl, ty))
      | _ => false
    | .putfield x => Nat.beq n 3 && match an with
      | (_, ci) :: (_, sl) :: (_, ty) :: _ => decide (xlk K.2.1 x = some (ci, sl, ty))
      | _ => false
    | .goto o => Nat.beq n 3 && match an with
      | (_, t) :: _ => decide ((pc : Int) + o = (t : Int))
      | _ => false
    | .ifCond _ o => Nat.beq n 3 && match an with
      | (_, t) :: _ => decide ((pc : Int) + o = (t : Int))
      | _ => false
    | .if_icmp _ o => Nat.beq n 3 && match an with
      | (_, t) :: _ => decide ((pc : Int) + o = (t : Int))
      | _ => false
    | .tableswitch d lo hi offs => match an with
      | (_, t) :: cs => decide ((pc : Int) + d = (t : Int)) && decide (hi = lo + (offs.size : Int) - 1) && decide (cs.map (fun q => (q.1.toInt, (q.2 : Int))) = offs.toList.zipIdx.map (fun q => (lo + (q.2 : Int), (pc : Int) + q.1)))
      | _ => false
    | .lookupswitch d ps => match an with
      | (_, t) :: cs => decide ((pc : Int) + d = (t : Int)) && decide (cs.map (fun q => (q.1.toInt, (q.2 : Int))) = ps.toList.map (fun q => (q.1, (pc : Int) + q.2))) && (ps.toList.zip (ps.toList.drop 1)).all (fun (a, next) => a.1 < next.1)
      | _ => false
    | .invokestatic x => Nat.beq n 3 && match an with
      | [(_, c)] => decide (xlk K.2.2.2.2 x = some c) && !Nat.beq c 0
      | (_, c) :: _ :: _ => decide (xlk K.2.2.2.2 x = some c) && Nat.beq c 0
      | _ => false
    | .invokevirtual x => Nat.beq n 3 && match an with
      | [(_, c)] => decide (xlk K.2.2.2.2 x = some c) && !Nat.beq c 0
      | _ => false
    | .ireturn | .lreturn | .return_ => Nat.beq n 1
    | _ => false
def xtok (code : ByteArray) (K : xC) (tb : xT) : Bool := tb.all (fun q => decide (decode code q.1 = .ok (q.2.1, q.2.2.1)) && xok K q.1 q.2)
/-- renaming a callee's cells to its caller's places -/
def xrV (pl : List Nat) : Value → Value
  | .ref a => .ref ((xnth pl a).getD 0)
  | v => v
def xrE (pl : List Nat) : xE → xE
  | .inl a => .inl a
  | .inr (c, fs) => .inr (c, fs.map (xrV pl))
def xput (pl : List Nat) : List Nat → xH → xH → xH
  | p :: ps, e :: es, ws => xput pl ps es (ws.set p (xrE pl e))
  | _, _, ws => ws
def xsub (pl : List Nat) (wc ws : xH) : Prop := pl.map (xnth ws) = wc.map (fun e => some (xrE pl e))
def xnum (v : Option Value) : Prop := v = none ∨ (∃ x, v = some (.int x)) ∨ ∃ x, v = some (.long x)
def xsl : List Value → xL
  | [] => []
  | .long x :: t => some (.long x) :: none :: xsl t
  | .double x :: t => some (.double x) :: none :: xsl t
  | v :: t => some v :: xsl t
def xent (args : List Value) (n : Nat) : xL := xsl args ++ List.replicate (n - (xsl args).length) none
abbrev xPost : Type := Option Value → xH → Prop
/-- what a predicate of states must be closed under so that it holds at a method's entry -/
def xG1 (tb : xT) (G : xK) : Prop := ∀ (pc : Nat) (i : xI) (loc : xL) (st : List Value) (ws : xH) (k : xK), xlk tb pc = some i → (∀ pc' loc' st' ws', k pc' loc' st' ws' → G pc' loc' st' ws') → xstep i pc loc st ws k (G pc loc st ws) → G pc loc st ws
def xG2 (tb : xT) (ret : Option FieldType) (Post : xPost) (G : xK) : Prop :=
  (∀ (pc n : Nat) (an : List (Int32 × Nat)) (j : Int64) (loc : xL) (ws : xH) (x : Int32), xlk tb pc = some (.ireturn, n, an, j) → (ret = some .int ∨ (ret = some .boolean ∧ (x = 0 ∨ x = 1))) → Post (some (.int x)) ws → G pc loc [.int x] ws) ∧
  (∀ (pc n : Nat) (an : List (Int32 × Nat)) (j : Int64) (loc : xL) (ws : xH) (x : Int64), xlk tb pc = some (.lreturn, n, an, j) → ret = some .long → Post (some (.long x)) ws → G pc loc [.long x] ws) ∧
  ∀ (pc n : Nat) (an : List (Int32 × Nat)) (j : Int64) (loc : xL) (ws : xH), xlk tb pc = some (.return_, n, an, j) → ret = none → Post none ws → G pc loc [] ws
def xG3 (Ms : List xM) (tb : xT) (Cl : Nat → List Value → xH → xPost → Prop) (G : xK) : Prop :=
  ∀ (pc x n c : Nat) (M : xM) (v0 : Int32) (j : Int64) (loc : xL) (st rest : List Value) (ws : xH) (as : List Value) (pl : List Nat) (wc : xH) (PC : xPost), xnth Ms c = some M → xlk tb pc = some ((match M.2.2.2.2.2.2 with | true => .invokestatic x | false => .invokevirtual x), n, [(v0, c)], j) →
    st = (as.map (xrV pl)).reverse ++ rest → Nat.ble (xcat rest) 8 = true → va_nd pl = true → xsub pl wc ws → Cl c as wc PC → (∀ v wc', PC v wc' → wc'.length = wc.length → G (pc + 3) loc (v.toList ++ rest) (xput pl pl wc' ws)) → G pc loc st ws
/-- a method's contract, d frames deep: whatever is closed under its instructions holds at its entry -/
def xCt (Ms : List xM) : Nat → Nat → List Value → xH → xPost → Prop
  | 0, _, _, _, _ => False
  | d + 1, c, as, ws, Post => ∃ M : xM, xnth Ms c = some M ∧ (match M.2.2.2.2.2.2 with
      | true => (parseMethodDescriptor M.1.desc).map (fun q => q.parameters.length) = some as.length
      | false => ∃ (a ci : Nat) (fs : List Value) (r : List Value) (q : vw_C), as = .ref a :: r ∧ xnth ws a = some (.inr (ci, fs)) ∧ vwCl[ci]? = some q ∧ q.1 = M.1.cls ∧ (parseMethodDescriptor M.1.desc).map (fun q => q.parameters.length) = some r.length) ∧ Nat.ble (xsl as).length M.2.2.1 = true ∧
    ∀ G : xK, xG1 M.2.2.2.2.1 G → xG2 M.2.2.2.2.1 M.2.2.2.1 Post G → xG3 Ms M.2.2.2.2.1 (xCt Ms d) G → G 0 (xent as M.2.2.1) [] ws
theorem xwp_go {tb : xT} {G : xK} (hG : xG1 tb G) (stops : List Nat) : ∀ (f pc : Nat) (loc : xL) (st : List Value) (ws : xH), xwp tb stops G f pc loc st ws → G pc loc st ws := by
  intro f
  induction f with
  | zero => intro pc loc st ws h; exact h
  | succ f ih =>
    intro pc loc st ws h
    unfold xwp at h
    split at h
    · exact h.elim
    next i hi =>
      refine hG pc i loc st ws _ hi (fun pc' loc' st' ws' h' => ?_) h
      split at h'
      · exact h'
      · exact ih _ _ _ _ h'
end
section
/-! SOUNDNESS of the abstract machine: what it says of a method, the real machine does (Met). -/
def xcV (ad : Nat → Nat) : Value → Value
  | .ref a => .ref (ad a)
  | v => v
theorem xcV_cat (ad : Nat → Nat) (v : Value) : (xcV ad v).category = v.category := by cases v <;> rfl
def xcE (ad : Nat → Nat) (cI : ClassId) : xE → va_E
  | .inl (n, f) => .inl (cI, n, .inl f)
  | .inr (c, fs) => .inr (c, fs.map (xcV ad))
def xcH (ad : Nat → Nat) (cI : ClassId) : Nat → xH → va_W
  | _, [] => []
  | i, e :: t => (ad i, xcE ad cI e) :: xcH ad cI (i + 1) t
theorem xcH_get (ad : Nat → Nat) (cI : ClassId) : ∀ (ws : xH) (i k : Nat), (xcH ad cI i ws)[k]? = ws[k]?.map (fun e => (ad (i + k), xcE ad cI e))
  | [], _, _ => by simp [xcH]
  | e :: t, i, 0 => by simp [xcH]
  | e :: t, i, k + 1 => by
    simp only [xcH, List.getElem?_cons_succ]
    rw [xcH_get ad cI t (i + 1) k, show i + 1 + k = i + (k + 1) by omega]
theorem xcH_at {ad : Nat → Nat} {cI : ClassId} {ws : xH} {k : Nat} {e : xE} (h : xnth ws k = some e) : (xcH ad cI 0 ws)[k]? = some (ad k, xcE ad cI e) := by
  rw [xnth_eq] at h
  rw [xcH_get, h, Nat.zero_add]; rfl
theorem xcH_of {ad : Nat → Nat} {cI : ClassId} {ws : xH} {k : Nat} {q : Nat × va_E} (h : (xcH ad cI 0 ws)[k]? = some q) : ∃ e, xnth ws k = some e ∧ q = (ad k, xcE ad cI e) := by
  rw [xcH_get, Nat.zero_add] at h
  cases hw : ws[k]? with
  | none => rw [hw] at h; cases h
  | some e =>
    rw [hw] at h
    exact ⟨e, by rw [xnth_eq]; exact hw, (Option.some.inj h).symm⟩
theorem xcH_set (ad : Nat → Nat) (cI : ClassId) (e : xE) : ∀ (ws : xH) (i k : Nat), xcH ad cI i (ws.set k e) = (xcH ad cI i ws).set k (ad (i + k), xcE ad cI e)
  | [], _, _ => by simp [xcH]
  | a :: t, i, 0 => by simp [xcH]
  | a :: t, i, k + 1 => by
    simp only [xcH, List.set_cons_succ]
    rw [xcH_set ad cI e t (i + 1) k, show i + 1 + k = i + (k + 1) by omega]
/-- locals -/
def xRl (ad : Nat → Nat) (ls : Array Slot) (loc : xL) : Prop := ls.size = loc.length ∧ lv_wf ls ∧ ∀ (i : Nat) (v : Value), loc[i]? = some (some v) → ls[i]? = some (.val (xcV ad v))
def xlp (ad : Nat → Nat) : Nat → xL → List (Nat × Value)
  | _, [] => []
  | i, some v :: t => (i, xcV ad v) :: xlp ad (i + 1) t
  | i, none :: t => xlp ad (i + 1) t
theorem xlp_in (ad : Nat → Nat) : ∀ (loc : xL) (i j : Nat) (v : Value), loc[j]? = some (some v) → (i + j, xcV ad v) ∈ xlp ad i loc
  | [], _, _, _, h => by simp at h
  | some w :: t, i, 0, v, h => by
    simp only [List.getElem?_cons_zero, Option.some.injEq] at h
    subst h
    exact List.mem_cons_self
  | none :: t, i, 0, v, h => by simp at h
  | some w :: t, i, j + 1, v, h => by
    rw [List.getElem?_cons_succ] at h
    have := xlp_in ad t (i + 1) j v h
    rw [show i + 1 + j = i + (j + 1) by omega] at this
    exact List.mem_cons_of_mem _ this
  | none :: t, i, j + 1, v, h => by
    rw [List.getElem?_cons_succ] at h
    have := xlp_in ad t (i + 1) j v h
    rw [show i + 1 + j = i + (j + 1) by omega] at this
    exact this
theorem xlp_of (ad : Nat → Nat) : ∀ (loc : xL) (i : Nat) (q : Nat × Value), q ∈ xlp ad i loc → ∃ j v, q = (i + j, xcV ad v) ∧ loc[j]? = some (some v)
  | [], _, _, h => by cases h
  | some w :: t, i, q, h => by
    rcases List.mem_cons.mp h with h | h
    · exact ⟨0, w, by rw [h]; rfl, rfl⟩
    · obtain ⟨j, v, h1, h2⟩ := xlp_of ad t (i + 1) q h
      exact ⟨j + 1, v, by rw [h1, show i + 1 + j = i + (j + 1) by omega], by rw [List.getElem?_cons_succ]; exact h2⟩
  | none :: t, i, q, h => by
    obtain ⟨j, v, h1, h2⟩ := xlp_of ad t (i + 1) q h
    exact ⟨j + 1, v, by rw [h1, show i + 1 + j = i + (j + 1) by omega], by rw [List.getElem?_cons_succ]; exact h2⟩
theorem xRl.has {ad : Nat → Nat} {ls : Array Slot} {loc : xL} (h : xRl ad ls loc) : lv_has ls loc.length (xlp ad 0 loc) := by
  refine ⟨h.1, h.2.1, fun q hq => ?_⟩
  obtain ⟨j, v, rfl, h2⟩ := xlp_of ad loc 0 q hq
  rw [Nat.zero_add]
  exact h.2.2 j v h2
theorem xRl.at {ad : Nat → Nat} {ls : Array Slot} {loc : xL} (h : xRl ad ls loc) {i : Nat} {v : Value} (hi : xnth loc i = some (some v)) : ls[i]? = some (.val (xcV ad v)) := h.2.2 i v (by rw [← xnth_eq]; exact hi)
theorem xprev_spec {loc : xL} {i j : Nat} {w : Value} (h : xprev loc i = true) (hj : j + 1 = i) (hw : loc[j]? = some (some w)) : w.category = 1 := by
  subst hj
  simp only [xprev, xnth_eq, hw] at h
  exact Nat.eq_of_beq_eq_true h
theorem xst1_e {loc : xL} {i : Nat} {v : Value} {k : xL → Prop} (h : xst1 loc i v k) : xprev loc i = true ∧ i < loc.length ∧ k (loc.set i (some v)) := by
  unfold xst1 at h
  split at h
  next h1 h2 =>
    rw [xnth_eq] at h2
    exact ⟨h1, (List.getElem?_eq_some_iff.mp h2).1, h⟩
  next => exact h.elim
theorem xst2_e {loc : xL} {i : Nat} {v : Value} {k : xL → Prop} (h : xst2 loc i v k) : xprev loc i = true ∧ i + 1 < loc.length ∧ k ((loc.set i (some v)).set (i + 1) none) := by
  unfold xst2 at h
  split at h
  next h1 h2 =>
    rw [xnth_eq] at h2
    exact ⟨h1, (List.getElem?_eq_some_iff.mp h2).1, h⟩
  next => exact h.elim
theorem xRl.st1 {ad : Nat → Nat} {ls' : Array Slot} {loc : xL} {i : Nat} {v : Value} (hp : xprev loc i = true) (hi : i < loc.length)
    (h : lv_has ls' loc.length ((i, xcV ad v) :: (xlp ad 0 loc).filter (fun q => !(q.1 == i) && !(q.1 + 1 == i && q.2.category == 2)))) : xRl ad ls' (loc.set i (some v)) := by
  refine ⟨by rw [List.length_set]; exact h.1, h.2.1, fun j w hw => ?_⟩
  by_cases hj : j = i
  · subst hj
    rw [List.getElem?_set_self hi] at hw
    cases hw
    exact h.2.2 (j, xcV ad v) List.mem_cons_self
  · rw [List.getElem?_set_ne (Ne.symm hj)] at hw
    have h1 := xlp_in ad loc 0 j w hw
    rw [Nat.zero_add] at h1
    refine h.2.2 (j, xcV ad w) (List.mem_cons_of_mem _ (List.mem_filter.mpr ⟨h1, ?_⟩))
    have e1 : (j == i) = false := by simpa using hj
    by_cases h2 : j + 1 = i
    · have := xprev_spec hp h2 hw
      simp [e1, xcV_cat, this]
    · simp [e1, h2]
theorem xRl.st2 {ad : Nat → Nat} {ls' : Array Slot} {loc : xL} {i : Nat} {v : Value} (hp : xprev loc i = true) (hi : i + 1 < loc.length)
    (h : lv_has ls' loc.length ((i, xcV ad v) :: (xlp ad 0 loc).filter (fun q => !(q.1 == i) && (!(q.1 == i + 1) && !(q.1 + 1 == i && q.2.category == 2))))) : xRl ad ls' ((loc.set i (some v)).set (i + 1) none) := by
  refine ⟨by rw [List.length_set, List.length_set]; exact h.1, h.2.1, fun j w hw => ?_⟩
  by_cases hj1 : j = i + 1
  · subst hj1
    rw [List.getElem?_set_self (by rw [List.length_set]; exact hi)] at hw
    cases hw
  rw [List.getElem?_set_ne (Ne.symm hj1)] at hw
  by_cases hj : j = i
  · subst hj
    rw [List.getElem?_set_self (by omega)] at hw
    cases hw
    exact h.2.2 (j, xcV ad v) List.mem_cons_self
  · rw [List.getElem?_set_ne (Ne.symm hj)] at hw
    have h1 := xlp_in ad loc 0 j w hw
    rw [Nat.zero_add] at h1
    refine h.2.2 (j, xcV ad w) (List.mem_cons_of_mem _ (List.mem_filter.mpr ⟨h1, ?_⟩))
    have e1 : (j == i) = false := by simpa using hj
    have e2 : (j == i + 1) = false := by simpa using hj1
    by_cases h2 : j + 1 = i
    · have := xprev_spec hp h2 hw
      simp [e1, e2, xcV_cat, this]
    · simp [e1, e2, h2]
/-! eliminations of the step's words -/
theorem xii_e {st : List Value} {f : Int32 → Int32 → List Value → Prop} (h : xii st f) : ∃ x y r, st = .int y :: .int x :: r ∧ f x y r := by
  unfold xii at h; split at h
  · exact ⟨_, _, _, rfl, h⟩
  · exact h.elim
theorem xll_e {st : List Value} {f : Int64 → Int64 → List Value → Prop} (h : xll st f) : ∃ x y r, st = .long y :: .long x :: r ∧ f x y r := by
  unfold xll at h; split at h
  · exact ⟨_, _, _, rfl, h⟩
  · exact h.elim
theorem xiload_e {loc : xL} {j : Nat} {f : Value → Prop} (h : xiload loc j f) : ∃ x, xnth loc j = some (some (.int x)) ∧ f (.int x) := by
  unfold xiload at h; split at h
  next h1 => exact ⟨_, h1, h⟩
  · exact h.elim
theorem xaload_e {loc : xL} {j : Nat} {f : Value → Prop} (h : xaload loc j f) : ∃ x, xnth loc j = some (some (.ref x)) ∧ f (.ref x) := by
  unfold xaload at h; split at h
  next h1 => exact ⟨_, h1, h⟩
  · exact h.elim
theorem xlload_e {loc : xL} {j : Nat} {f : Value → Prop} (h : xlload loc j f) : ∃ x, xnth loc j = some (some (.long x)) ∧ f (.long x) := by
  unfold xlload at h; split at h
  next h1 => exact ⟨_, h1, h⟩
  · exact h.elim
theorem xistore_e {loc : xL} {st : List Value} {j : Nat} {f : xL → List Value → Prop} (h : xistore loc st j f) : ∃ x r, st = .int x :: r ∧ xprev loc j = true ∧ j < loc.length ∧ f (loc.set j (some (.int x))) r := by
  unfold xistore at h; split at h
  · exact ⟨_, _, rfl, xst1_e h⟩
  · exact h.elim
theorem xlstore_e {loc : xL} {st : List Value} {j : Nat} {f : xL → List Value → Prop} (h : xlstore loc st j f) : ∃ x r, st = .long x :: r ∧ xprev loc j = true ∧ j + 1 < loc.length ∧ f ((loc.set j (some (.long x))).set (j + 1) none) r := by
  unfold xlstore at h; split at h
  · exact ⟨_, _, rfl, xst2_e h⟩
  · exact h.elim
theorem xcon_e {an : List (Int32 × Nat)} {f : Int32 → Prop} (h : xcon an f) : ∃ v t r, an = (v, t) :: r ∧ f v := by
  unfold xcon at h; split at h
  · exact ⟨_, _, _, rfl, h⟩
  · exact h.elim
theorem xtgt_e {an : List (Int32 × Nat)} {f : Nat → Prop} (h : xtgt an f) : ∃ v t r, an = (v, t) :: r ∧ f t := by
  unfold xtgt at h; split at h
  · exact ⟨_, _, _, rfl, h⟩
  · exact h.elim
theorem xgetf_e {an : List (Int32 × Nat)} {st : List Value} {ws : xH} {f : Value → List Value → Prop} (h : xgetf an st ws f) : ∃ v0 ci v1 sl rr a r fs v, an = (v0, ci) :: (v1, sl) :: rr ∧ st = .ref a :: r ∧ xnth ws a = some (.inr (ci, fs)) ∧ xnth fs sl = some v ∧ f v r := by
  unfold xgetf at h; split at h
  · split at h
    next h1 =>
      split at h
      next h2 h3 =>
        have e := Nat.eq_of_beq_eq_true h2
        subst e
        exact ⟨_, _, _, _, _, _, _, _, _, rfl, rfl, h1, h3, h⟩
      · exact h.elim
    · exact h.elim
  · exact h.elim
theorem xputf_e {an : List (Int32 × Nat)} {st : List Value} {ws : xH} {f : List Value → xH → Prop} (h : xputf an st ws f) : ∃ v0 ci v1 sl v2 ty rr x a r fs w, an = (v0, ci) :: (v1, sl) :: (v2, ty) :: rr ∧ st = .int x :: .ref a :: r ∧ xnth ws a = some (.inr (ci, fs)) ∧ xnth fs sl = some w ∧ (ty = 0 ∨ (ty = 1 ∧ (x = 0 ∨ x = 1))) ∧ f r (ws.set a (.inr (ci, fs.set sl (.int x)))) := by
  unfold xputf at h; split at h
  · split at h
    next h1 =>
      split at h
      next h2 h3 =>
        have e := Nat.eq_of_beq_eq_true h2
        subst e
        exact ⟨_, _, _, _, _, _, _, _, _, _, _, _, rfl, rfl, h1, h3, Or.inl rfl, h⟩
      next h2 h3 =>
        have e := Nat.eq_of_beq_eq_true h2
        subst e
        exact ⟨_, _, _, _, _, _, _, _, _, _, _, _, rfl, rfl, h1, h3, Or.inr ⟨rfl, h.1⟩, h.2⟩
      · exact h.elim
    · exact h.elim
  · exact h.elim
theorem xiald_e {st : List Value} {ws : xH} {f : Value → List Value → Prop} (h : xiald st ws f) : ∃ i a r n g, st = .int i :: .ref a :: r ∧ xnth ws a = some (.inl (n, g)) ∧ vp_in i n ∧ f (.int (g i.toNatClampNeg)) r := by
  unfold xiald at h; split at h
  · split at h
    next h1 => exact ⟨_, _, _, _, _, rfl, h1, h.1, h.2⟩
    · exact h.elim
  · exact h.elim
theorem xiast_e {st : List Value} {ws : xH} {f : List Value → xH → Prop} (h : xiast st ws f) : ∃ x i a r n g, st = .int x :: .int i :: .ref a :: r ∧ xnth ws a = some (.inl (n, g)) ∧ vp_in i n ∧ f r (ws.set a (.inl (n, upd g i.toNatClampNeg x))) := by
  unfold xiast at h; split at h
  · split at h
    next h1 => exact ⟨_, _, _, _, _, _, rfl, h1, h.1, h.2⟩
    · exact h.elim
  · exact h.elim
theorem xalen_e {st : List Value} {ws : xH} {f : Value → List Value → Prop} (h : xalen st ws f) : ∃ a r n g, st = .ref a :: r ∧ xnth ws a = some (.inl (n, g)) ∧ f (.int (Int32.ofNat n)) r := by
  unfold xalen at h; split at h
  · split at h
    next h1 => exact ⟨_, _, _, _, rfl, h1, h⟩
    · exact h.elim
  · exact h.elim
theorem xdup_e {st : List Value} {f : List Value → Prop} (h : xdup st f) : ∃ v r, st = v :: r ∧ v.category = 1 ∧ f (v :: v :: r) := by
  unfold xdup at h; split at h
  · exact ⟨_, _, rfl, rfl, h⟩
  · exact ⟨_, _, rfl, rfl, h⟩
  · exact h.elim
theorem xdup2_e {st : List Value} {f : List Value → Prop} (h : xdup2 st f) : ∃ x y r, st = .int x :: .ref y :: r ∧ f (.int x :: .ref y :: .int x :: .ref y :: r) := by
  unfold xdup2 at h; split at h
  · exact ⟨_, _, _, rfl, h⟩
  · exact h.elim
theorem xcnd_e {an : List (Int32 × Nat)} {st : List Value} {f : Int32 → List Value → Nat → Prop} (h : xcnd an st f) : ∃ v t rr x r, an = (v, t) :: rr ∧ st = .int x :: r ∧ f x r t := by
  unfold xcnd at h; split at h
  · exact ⟨_, _, _, _, _, rfl, rfl, h⟩
  · exact h.elim
theorem xcnd2_e {an : List (Int32 × Nat)} {st : List Value} {f : Int32 → Int32 → List Value → Nat → Prop} (h : xcnd2 an st f) : ∃ v t rr x y r, an = (v, t) :: rr ∧ st = .int y :: .int x :: r ∧ f x y r t := by
  unfold xcnd2 at h; split at h
  · exact ⟨_, _, _, _, _, _, rfl, rfl, h⟩
  · exact h.elim
theorem xswi_e {an : List (Int32 × Nat)} {st : List Value} {f : Int32 → List Value → Nat → List (Int32 × Nat) → Prop} (h : xswi an st f) : ∃ v d cs x r, an = (v, d) :: cs ∧ st = .int x :: r ∧ f x r d cs := by
  unfold xswi at h; split at h
  · exact ⟨_, _, _, _, _, rfl, rfl, h⟩
  · exact h.elim
theorem xi2l_e {st : List Value} {f : List Value → Prop} (h : xi2l st f) : ∃ x r, st = .int x :: r ∧ f (.long x.toInt64 :: r) := by
  unfold xi2l at h; split at h
  · exact ⟨_, _, rfl, h⟩
  · exact h.elim
theorem xineg_e {st : List Value} {f : List Value → Prop} (h : xineg st f) : ∃ x r, st = .int x :: r ∧ f (.int (-x) :: r) := by
  unfold xineg at h; split at h
  · exact ⟨_, _, rfl, h⟩
  · exact h.elim
theorem xsw_e {x : Int32} {k : Nat → Prop} {d : Nat} : ∀ {cs : List (Int32 × Nat)}, xsw x k d cs → (∃ (i : Nat) (key : Int32) (t : Nat), cs[i]? = some (key, t) ∧ x = key ∧ k t ∧ ∀ (j : Nat) (key' : Int32) (t' : Nat), j < i → cs[j]? = some (key', t') → ¬ x = key') ∨ ((∀ q ∈ cs, ¬ x = q.1) ∧ k d)
  | [], h => Or.inr ⟨fun _ hq => by (cases hq), h⟩
  | (key, t) :: r, h => by
    by_cases hx : x = key
    · exact Or.inl ⟨0, key, t, rfl, hx, h.1 hx, fun j _ _ hj => absurd hj (Nat.not_lt_zero j)⟩
    · rcases xsw_e (h.2 hx) with ⟨i, key', t', h1, h2, h3, h4⟩ | ⟨h1, h2⟩
      · refine Or.inl ⟨i + 1, key', t', h1, h2, h3, fun j k2 t2 hj h5 => ?_⟩
        cases j with
        | zero =>
          rw [List.getElem?_cons_zero] at h5
          cases h5
          exact hx
        | succ j => exact h4 j k2 t2 (by omega) h5
      · refine Or.inr ⟨fun q hq => ?_, h2⟩
        rcases List.mem_cons.mp hq with rfl | hq
        · exact hx
        · exact h1 q hq
end
section
/-! one instruction of the abstract machine is one of the real machine's -/
def xFOk (Ts nl : List Cond) (own : String) (idx ci sl ty : Nat) : Prop := ∃ (C : String) (T : u_T) (N : Nat) (ty0 : Nat → FieldType), vwCl[ci]? = some (C, T, N) ∧ sl < N ∧ (∀ w ∈ u_ws C T N, w ∈ Ts) ∧ (∀ k, k < N → parseFieldDescriptor (T k).2.2.1 = some (ty0 k)) ∧ (∀ a, a < N → ∀ b, b < N → a ≠ b → (T a).2.1 ≠ (T b).2.1) ∧
  (Cond.fieldLink own idx (T sl).1 (T sl).2.1 (T sl).2.2.1 ∈ Ts ∨ ∃ host, Cond.fieldLinkNest own idx (T sl).1 (T sl).2.1 (T sl).2.2.1 host ∈ nl) ∧ (ty = 0 → (T sl).2.2.2 = false ∧ ty0 sl = .int) ∧ (ty = 1 → (T sl).2.2.2 = false ∧ ty0 sl = .boolean)
def xCOk (Ts nl : List Cond) (Ms : List xM) (K : xC) : Prop := (∀ q ∈ K.2.1, xFOk Ts nl K.1 q.1 q.2.1 q.2.2.1 q.2.2.2) ∧ (∀ q ∈ K.2.2.1, Cond.constant K.1 q.1 q.2 ∈ Ts) ∧ (∀ q ∈ K.2.2.2.1, Cond.constantLong K.1 q.1 q.2 ∈ Ts) ∧
  (∀ q ∈ K.2.2.2.2, (q.2 = 0 → Cond.methodLink K.1 q.1 Lib.Math.min.name ∈ Ts ∧ Cond.static Lib.Math.min.name ∈ Ts ∧ Cond.initialized "java/lang/Math" ∈ Ts ∧ Cond.code Lib.Math.min.name Lib.Math.min.code 2 (some .int) ∈ Ts) ∧ (q.2 ≠ 0 → ∀ M, xnth Ms q.2 = some M → Cond.methodLink K.1 q.1 M.1 ∈ Ts))
section XS
variable {p : Program} {l : Launch} {e : Env} {R : Room} {s : State} {m : MethodId} {args : Array Value} {below : List Frame} {meth : Method} {c : Code} {Q : State → Prop} {D : va_G} {A : Nat → Prop} {ad : Nat → Nat} {cI : ClassId} {N0 : Nat}
variable {Ts nl : List Cond} {Ms : List xM} {K : xC} {cc : ByteArray}
/-- the real machine's goal behind a state of the abstract one -/
def xGW (p : Program) (l : Launch) (e : Env) (R : Room) (s : State) (m : MethodId) (args : Array Value) (below : List Frame) (meth : Method) (c : Code) (Q : State → Prop) (D : va_G) (A : Nat → Prop) (ad : Nat → Nat) (cI : ClassId) (N0 nL : Nat) : xK := fun pc loc st ws =>
  ws.length = N0 → loc.length = nL → ∀ (ls : Array Slot) (H : Heap) (locs : List Loc), xRl ad ls loc → va_P D vwCl (xcH ad cI 0 ws) H → va_D A (xcH ad cI 0 ws) → va_S A s.heap H locs → W p l e R s m args below meth c H locs 0 0 Q (F0 m pc ls (st.map (xcV ad)))
theorem xb2 {a b : Bool} (h : (a && b) = true) : a = true ∧ b = true := by simpa using h
theorem xn {n k : Nat} (h : Nat.beq n k = true) : n = k := Nat.eq_of_beq_eq_true h
theorem xcmp_0 {p : Program} {l : Launch} {e : Env} {R : Room} {s : State} {m : MethodId} {args : Array Value} {below : List Frame} {meth : Method} {c : Code} {H : Heap} {locs : List Loc} {cells slots : Nat} {Q : State → Prop} {pc : Nat} {ls : Array Slot} {rest : List Value} (hx : p.tables.exec = Jvm.exec) (hb : c.code = cc) {cd : ClassFile.Cond} {x : Int32} {off : Int} {tgt : Nat} {a b : Prop} (hdg : decode cc pc = .ok (.ifCond cd off, 3)) (ht : (pc : Int) + off = (tgt : Int)) (h : xcmp cd x 0 a b)
    (ka : a → W p l e R s m args below meth c H locs cells slots Q (F0 m tgt ls rest)) (kb : b → W p l e R s m args below meth c H locs cells slots Q (F0 m (pc + 3) ls rest)) : W p l e R s m args below meth c H locs cells slots Q (F0 m pc ls (.int x :: rest)) := by
  cases cd
  · exact lv_if_eq hx hb hdg ht (fun q => ka (h.1 q)) (fun q => kb (h.2 q))
  · exact lv_if_ne hx hb hdg ht (fun q => ka (h.1 q)) (fun q => kb (h.2 q))
  · exact lv_if_lt hx hb hdg ht (fun q => ka (h.1 q)) (fun q => kb (h.2 q))
  · first | exact lv_if_ge hx hb hdg ht (fun q => ka (h.1 q)) (fun q => kb (h.2 q)) | exact lv_if_le hx hb hdg ht (fun q => ka (h.1 q)) (fun q => kb (h.2 q))
  · first | exact lv_if_gt hx hb hdg ht (fun q => ka (h.1 q)) (fun q => kb (h.2 q)) | exact lv_if_ge hx hb hdg ht (fun q => ka (h.1 q)) (fun q => kb (h.2 q))
  · first | exact lv_if_le hx hb hdg ht (fun q => ka (h.1 q)) (fun q => kb (h.2 q)) | exact lv_if_gt hx hb hdg ht (fun q => ka (h.1 q)) (fun q => kb (h.2 q))
theorem xcmp_2 {p : Program} {l : Launch} {e : Env} {R : Room} {s : State} {m : MethodId} {args : Array Value} {below : List Frame} {meth : Method} {c : Code} {H : Heap} {locs : List Loc} {cells slots : Nat} {Q : State → Prop} {pc : Nat} {ls : Array Slot} {rest : List Value} (hx : p.tables.exec = Jvm.exec) (hb : c.code = cc) {cd : ClassFile.Cond} {x y : Int32} {off : Int} {tgt : Nat} {a b : Prop} (hdg : decode cc pc = .ok (.if_icmp cd off, 3)) (ht : (pc : Int) + off = (tgt : Int)) (h : xcmp cd x y a b)
    (ka : a → W p l e R s m args below meth c H locs cells slots Q (F0 m tgt ls rest)) (kb : b → W p l e R s m args below meth c H locs cells slots Q (F0 m (pc + 3) ls rest)) : W p l e R s m args below meth c H locs cells slots Q (F0 m pc ls (.int y :: .int x :: rest)) := by
  cases cd
  · exact lv_icmp_eq hx hb hdg ht (fun q => ka (h.1 q)) (fun q => kb (h.2 q))
  · exact lv_icmp_ne hx hb hdg ht (fun q => ka (h.1 q)) (fun q => kb (h.2 q))
  · exact lv_icmp_lt hx hb hdg ht (fun q => ka (h.1 q)) (fun q => kb (h.2 q))
  · first | exact lv_icmp_ge hx hb hdg ht (fun q => ka (h.1 q)) (fun q => kb (h.2 q)) | exact lv_icmp_le hx hb hdg ht (fun q => ka (h.1 q)) (fun q => kb (h.2 q))
  · first | exact lv_icmp_gt hx hb hdg ht (fun q => ka (h.1 q)) (fun q => kb (h.2 q)) | exact lv_icmp_ge hx hb hdg ht (fun q => ka (h.1 q)) (fun q => kb (h.2 q))
  · first | exact lv_icmp_le hx hb hdg ht (fun q => ka (h.1 q)) (fun q => kb (h.2 q)) | exact lv_icmp_gt hx hb hdg ht (fun q => ka (h.1 q)) (fun q => kb (h.2 q))
theorem xlook : ∀ {ps : List (Int × Int)} {cs : List (Int32 × Nat)} {pc : Nat} {d : Int} {x : Int32}, cs.map (fun q => (q.1.toInt, (q.2 : Int))) = ps.map (fun q => (q.1, (pc : Int) + q.2)) → ∀ {dt : Nat}, (pc : Int) + d = (dt : Int) → ∀ {k : Nat → Prop}, xsw x k dt cs → ∃ t : Nat, (pc : Int) + Op.lookupswitch.offset ps d x.toInt = (t : Int) ∧ k t
  | [], [], pc, d, x, _, dt, hd, k, hk => ⟨dt, by simpa [Op.lookupswitch.offset] using hd, hk⟩
  | [], _ :: _, _, _, _, h, _, _, _, _ => by simp at h
  | _ :: _, [], _, _, _, h, _, _, _, _ => by simp at h
  | (a, o) :: ps, (key, t) :: cs, pc, d, x, h, dt, hd, k, hk => by
    simp only [List.map_cons, List.cons.injEq, Prod.mk.injEq] at h
    obtain ⟨⟨h1, h2⟩, h3⟩ := h
    by_cases hx : x = key
    · refine ⟨t, ?_, hk.1 hx⟩
      rw [Op.lookupswitch.offset_cons, if_pos (by rw [hx, h1]), h2]
    · obtain ⟨t', g1, g2⟩ := xlook h3 hd (hk.2 hx)
      exact ⟨t', by rw [lv_osw hx h1]; exact g1, g2⟩

set_option maxHeartbeats 4000000 in
theorem xstep_ok {nL : Nat} (hx : p.tables.exec = Jvm.exec) (hb : c.code = cc) (hml : c.maxLocals = nL) (hown : s.vm.findClass K.1 = some m.cls) (hts : ∀ w ∈ Ts, w.before args s = true) (hN : ∀ w ∈ nl, w.before args s = true) (hnl : ∀ w ∈ nl, ∃ a i b n d h, w = .fieldLinkNest a i b n d h) (hK : va_K D vwCl [(cI, .int)] s) (hC : xCOk Ts nl Ms K) (hfr : 1 ≤ R.frames) (hlo : 21 ≤ R.locals)
    {pc : Nat} {i : xI} {loc : xL} {st : List Value} {ws : xH} {k : xK} (hi : decode cc pc = .ok (i.1, i.2.1)) (hok : xok K pc i = true) (hk : ∀ pc' loc' st' ws', k pc' loc' st' ws' → xGW p l e R s m args below meth c Q D A ad cI N0 nL pc' loc' st' ws') {dflt : Prop} (hd : dflt → xGW p l e R s m args below meth c Q D A ad cI N0 nL pc loc st ws) (h : xstep i pc loc st ws k dflt) : xGW p l e R s m args below meth c Q D A ad cI N0 nL pc loc st ws := by
  obtain ⟨op, n, an, jl⟩ := i
  cases op with
  | aload_n j =>
    obtain rfl : n = 1 := xn hok
    dsimp only [xstep] at h
    obtain ⟨x, h1, h⟩ := xaload_e h
    exact fun hn hm ls H locs hl hP hD hS => lv_aload_n hx hb hi rfl (hl.at h1) (hk _ _ _ _ h hn hm ls H locs hl hP hD hS)
  | aload j =>
    obtain rfl : n = 2 := xn hok
    dsimp only [xstep] at h
    obtain ⟨x, h1, h⟩ := xaload_e h
    exact fun hn hm ls H locs hl hP hD hS => lv_aload hx hb hi (hl.at h1) (hk _ _ _ _ h hn hm ls H locs hl hP hD hS)
  | iload_n j =>
    obtain rfl : n = 1 := xn hok
    dsimp only [xstep] at h
    obtain ⟨x, h1, h⟩ := xiload_e h
    exact fun hn hm ls H locs hl hP hD hS => lv_iload_n hx hb hi rfl (hl.at h1) (hk _ _ _ _ h hn hm ls H locs hl hP hD hS)
  | iload j =>
    obtain rfl : n = 2 := xn hok
    dsimp only [xstep] at h
    obtain ⟨x, h1, h⟩ := xiload_e h
    exact fun hn hm ls H locs hl hP hD hS => lv_iload hx hb hi (hl.at h1) (hk _ _ _ _ h hn hm ls H locs hl hP hD hS)
  | lload_n j =>
    obtain rfl : n = 1 := xn hok
    dsimp only [xstep] at h
    obtain ⟨x, h1, h⟩ := xlload_e h
    exact fun hn hm ls H locs hl hP hD hS => lv_lload_n hx hb hi rfl (hl.at h1) (hk _ _ _ _ h hn hm ls H locs hl hP hD hS)
  | lload j =>
    obtain rfl : n = 2 := xn hok
    dsimp only [xstep] at h
    obtain ⟨x, h1, h⟩ := xlload_e h
    exact fun hn hm ls H locs hl hP hD hS => lv_lload hx hb hi (hl.at h1) (hk _ _ _ _ h hn hm ls H locs hl hP hD hS)
  | istore_n j =>
    obtain rfl : n = 1 := xn hok
    dsimp only [xstep] at h
    obtain ⟨x, r, rfl, h1, h2, h⟩ := xistore_e h
    exact fun hn hm ls H locs hl hP hD hS => lv_istore_n hx hb hi rfl hl.has h2 rfl (fun ls' hl' => hk _ _ _ _ h hn (by rw [List.length_set]; exact hm) ls' H locs (xRl.st1 (v := .int x) h1 h2 hl') hP hD hS)
  | istore j =>
    obtain rfl : n = 2 := xn hok
    dsimp only [xstep] at h
    obtain ⟨x, r, rfl, h1, h2, h⟩ := xistore_e h
    exact fun hn hm ls H locs hl hP hD hS => lv_istore hx hb hi hl.has h2 rfl (fun ls' hl' => hk _ _ _ _ h hn (by rw [List.length_set]; exact hm) ls' H locs (xRl.st1 (v := .int x) h1 h2 hl') hP hD hS)
  | lstore_n j =>
    obtain rfl : n = 1 := xn hok
    dsimp only [xstep] at h
    obtain ⟨x, r, rfl, h1, h2, h⟩ := xlstore_e h
    exact fun hn hm ls H locs hl hP hD hS => lv_lstore_n hx hb hi rfl hl.has h2 rfl (fun ls' hl' => hk _ _ _ _ h hn (by rw [List.length_set, List.length_set]; exact hm) ls' H locs (xRl.st2 (v := .long x) h1 h2 hl') hP hD hS)
  | lstore j =>
    obtain rfl : n = 2 := xn hok
    dsimp only [xstep] at h
    obtain ⟨x, r, rfl, h1, h2, h⟩ := xlstore_e h
    exact fun hn hm ls H locs hl hP hD hS => lv_lstore hx hb hi hl.has h2 rfl (fun ls' hl' => hk _ _ _ _ h hn (by rw [List.length_set, List.length_set]; exact hm) ls' H locs (xRl.st2 (v := .long x) h1 h2 hl') hP hD hS)
  | iinc j v =>
    obtain ⟨h0, hok⟩ := xb2 hok
    obtain rfl : n = 3 := xn h0
    dsimp only [xstep] at h
    split at h
    next x hx0 =>
      obtain ⟨w, t, r, rfl, h'⟩ := xcon_e h
      obtain ⟨h1, h2, h3⟩ := xst1_e h'
      have hv : Int32.ofInt v = w := of_decide_eq_true hok
      subst hv
      intro hn hm ls H locs hl hP hD hS
      have h4 := xlp_in ad loc 0 j _ (by rw [← xnth_eq]; exact hx0)
      rw [Nat.zero_add] at h4
      obtain ⟨q, hq⟩ := List.getElem?_of_mem h4
      exact lv_iinc hx hb hi hl.has hq rfl h2 rfl (fun ls' hl' => hk _ _ _ _ h3 hn (by rw [List.length_set]; exact hm) ls' H locs (xRl.st1 (v := .int (x + Int32.ofInt v)) h1 h2 hl') hP hD hS)
    · exact h.elim
  | iconst v =>
    obtain ⟨h0, hok⟩ := xb2 hok
    obtain rfl : n = 1 := xn h0
    dsimp only [xstep] at h
    obtain ⟨w, t, r, rfl, h⟩ := xcon_e h
    exact fun hn hm ls H locs hl hP hD hS => lv_iconst hx hb hi (of_decide_eq_true hok) (hk _ _ _ _ h hn hm ls H locs hl hP hD hS)
  | bipush v =>
    obtain ⟨h0, hok⟩ := xb2 hok
    obtain rfl : n = 2 := xn h0
    dsimp only [xstep] at h
    obtain ⟨w, t, r, rfl, h⟩ := xcon_e h
    exact fun hn hm ls H locs hl hP hD hS => lv_bipush hx hb hi (of_decide_eq_true hok) (hk _ _ _ _ h hn hm ls H locs hl hP hD hS)
  | sipush v =>
    obtain ⟨h0, hok⟩ := xb2 hok
    obtain rfl : n = 3 := xn h0
    dsimp only [xstep] at h
    obtain ⟨w, t, r, rfl, h⟩ := xcon_e h
    exact fun hn hm ls H locs hl hP hD hS => lv_sipush hx hb hi (of_decide_eq_true hok) (hk _ _ _ _ h hn hm ls H locs hl hP hD hS)
  | ldc v =>
    obtain ⟨h0, hok⟩ := xb2 hok
    obtain rfl : n = 2 := xn h0
    dsimp only [xstep] at h
    obtain ⟨w, t, r, rfl, h⟩ := xcon_e h
    exact fun hn hm ls H locs hl hP hD hS => lv_ldc hx hb hown (hts _ (hC.2.1 _ (xlk_mem (of_decide_eq_true hok)))) hi (hk _ _ _ _ h hn hm ls H locs hl hP hD hS)
  | ldc_w v =>
    obtain ⟨h0, hok⟩ := xb2 hok
    obtain rfl : n = 3 := xn h0
    dsimp only [xstep] at h
    obtain ⟨w, t, r, rfl, h⟩ := xcon_e h
    exact fun hn hm ls H locs hl hP hD hS => lv_ldcw hx hb hown (hts _ (hC.2.1 _ (xlk_mem (of_decide_eq_true hok)))) hi (hk _ _ _ _ h hn hm ls H locs hl hP hD hS)
  | lconst v =>
    obtain ⟨h0, hok⟩ := xb2 hok
    obtain rfl : n = 1 := xn h0
    dsimp only [xstep] at h
    exact fun hn hm ls H locs hl hP hD hS => lv_lconst hx hb hi (of_decide_eq_true hok) (hk _ _ _ _ h hn hm ls H locs hl hP hD hS)
  | ldc2_w v =>
    obtain ⟨h0, hok⟩ := xb2 hok
    obtain rfl : n = 3 := xn h0
    dsimp only [xstep] at h
    exact fun hn hm ls H locs hl hP hD hS => lv_ldc2 hx hb hown (hts _ (hC.2.2.1 _ (xlk_mem (of_decide_eq_true hok)))) hi (hk _ _ _ _ h hn hm ls H locs hl hP hD hS)
  | iadd =>
    obtain rfl : n = 1 := xn hok
    dsimp only [xstep] at h
    obtain ⟨x, y, r, rfl, h⟩ := xii_e h
    exact fun hn hm ls H locs hl hP hD hS => lv_iadd hx hb hi (hk _ _ _ _ h hn hm ls H locs hl hP hD hS)
  | isub =>
    obtain rfl : n = 1 := xn hok
    dsimp only [xstep] at h
    obtain ⟨x, y, r, rfl, h⟩ := xii_e h
    exact fun hn hm ls H locs hl hP hD hS => lv_isub hx hb hi (hk _ _ _ _ h hn hm ls H locs hl hP hD hS)
  | imul =>
    obtain rfl : n = 1 := xn hok
    dsimp only [xstep] at h
    obtain ⟨x, y, r, rfl, h⟩ := xii_e h
    exact fun hn hm ls H locs hl hP hD hS => lv_imul hx hb hi (hk _ _ _ _ h hn hm ls H locs hl hP hD hS)
  | iand =>
    obtain rfl : n = 1 := xn hok
    dsimp only [xstep] at h
    obtain ⟨x, y, r, rfl, h⟩ := xii_e h
    exact fun hn hm ls H locs hl hP hD hS => lv_iand hx hb hi (hk _ _ _ _ h hn hm ls H locs hl hP hD hS)
  | ior =>
    obtain rfl : n = 1 := xn hok
    dsimp only [xstep] at h
    obtain ⟨x, y, r, rfl, h⟩ := xii_e h
    exact fun hn hm ls H locs hl hP hD hS => lv_ior hx hb hi (hk _ _ _ _ h hn hm ls H locs hl hP hD hS)
  | ixor =>
    obtain rfl : n = 1 := xn hok
    dsimp only [xstep] at h
    obtain ⟨x, y, r, rfl, h⟩ := xii_e h
    exact fun hn hm ls H locs hl hP hD hS => lv_ixor hx hb hi (hk _ _ _ _ h hn hm ls H locs hl hP hD hS)
  | ishl =>
    obtain rfl : n = 1 := xn hok
    dsimp only [xstep] at h
    obtain ⟨x, y, r, rfl, h⟩ := xii_e h
    exact fun hn hm ls H locs hl hP hD hS => lv_ishl hx hb hi (hk _ _ _ _ h hn hm ls H locs hl hP hD hS)
  | ishr =>
    obtain rfl : n = 1 := xn hok
    dsimp only [xstep] at h
    obtain ⟨x, y, r, rfl, h⟩ := xii_e h
    exact fun hn hm ls H locs hl hP hD hS => lv_ishr hx hb hi (hk _ _ _ _ h hn hm ls H locs hl hP hD hS)
  | idiv =>
    obtain rfl : n = 1 := xn hok
    dsimp only [xstep] at h
    obtain ⟨x, y, r, rfl, h0, h⟩ := xii_e h
    exact fun hn hm ls H locs hl hP hD hS => lv_idiv hx hb hi h0 (hk _ _ _ _ h hn hm ls H locs hl hP hD hS)
  | irem =>
    obtain rfl : n = 1 := xn hok
    dsimp only [xstep] at h
    obtain ⟨x, y, r, rfl, h0, h⟩ := xii_e h
    exact fun hn hm ls H locs hl hP hD hS => lv_irem hx hb hi h0 (hk _ _ _ _ h hn hm ls H locs hl hP hD hS)
  | iushr =>
    obtain rfl : n = 1 := xn hok
    dsimp only [xstep] at h
    obtain ⟨x, y, r, rfl, h⟩ := xii_e h
    exact fun hn hm ls H locs hl hP hD hS => lv_iushr hx hb hi rfl (hk _ _ _ _ h hn hm ls H locs hl hP hD hS)
  | ineg =>
    obtain rfl : n = 1 := xn hok
    dsimp only [xstep] at h
    obtain ⟨x, r, rfl, h⟩ := xineg_e h
    exact fun hn hm ls H locs hl hP hD hS => lv_ineg hx hb hi (hk _ _ _ _ h hn hm ls H locs hl hP hD hS)
  | i2l =>
    obtain rfl : n = 1 := xn hok
    dsimp only [xstep] at h
    obtain ⟨x, r, rfl, h⟩ := xi2l_e h
    exact fun hn hm ls H locs hl hP hD hS => lv_i2l hx hb hi rfl (hk _ _ _ _ h hn hm ls H locs hl hP hD hS)
  | lsub =>
    obtain rfl : n = 1 := xn hok
    dsimp only [xstep] at h
    obtain ⟨x, y, r, rfl, h⟩ := xll_e h
    exact fun hn hm ls H locs hl hP hD hS => lv_lsub hx hb hi (hk _ _ _ _ h hn hm ls H locs hl hP hD hS)
  | lmul =>
    obtain rfl : n = 1 := xn hok
    dsimp only [xstep] at h
    obtain ⟨x, y, r, rfl, h⟩ := xll_e h
    exact fun hn hm ls H locs hl hP hD hS => lv_lmul hx hb hi (hk _ _ _ _ h hn hm ls H locs hl hP hD hS)
  | ldiv =>
    obtain rfl : n = 1 := xn hok
    dsimp only [xstep] at h
    obtain ⟨x, y, r, rfl, h0, h⟩ := xll_e h
    exact fun hn hm ls H locs hl hP hD hS => lv_ldiv hx hb hi h0 (hk _ _ _ _ h hn hm ls H locs hl hP hD hS)
  | lrem =>
    obtain rfl : n = 1 := xn hok
    dsimp only [xstep] at h
    obtain ⟨x, y, r, rfl, h0, h⟩ := xll_e h
    exact fun hn hm ls H locs hl hP hD hS => lv_lrem hx hb hi h0 (hk _ _ _ _ h hn hm ls H locs hl hP hD hS)
  | lcmp =>
    obtain rfl : n = 1 := xn hok
    dsimp only [xstep] at h
    obtain ⟨x, y, r, rfl, h⟩ := xll_e h
    exact fun hn hm ls H locs hl hP hD hS => W.lcmp hx hb hi (hk _ _ _ _ h hn hm ls H locs hl hP hD hS)
  | dup =>
    obtain rfl : n = 1 := xn hok
    dsimp only [xstep] at h
    obtain ⟨v, r, rfl, hc, h⟩ := xdup_e h
    exact fun hn hm ls H locs hl hP hD hS => lv_dup hx hb hi (by rw [xcV_cat]; exact hc) (hk _ _ _ _ h hn hm ls H locs hl hP hD hS)
  | dup2 =>
    obtain rfl : n = 1 := xn hok
    dsimp only [xstep] at h
    obtain ⟨x, y, r, rfl, h⟩ := xdup2_e h
    exact fun hn hm ls H locs hl hP hD hS => lv_dup2_11 hx hb hi rfl rfl (hk _ _ _ _ h hn hm ls H locs hl hP hD hS)
  | getfield j =>
    obtain ⟨h0, hok⟩ := xb2 hok
    obtain rfl : n = 3 := xn h0
    dsimp only [xstep] at h
    obtain ⟨v0, ci, v1, sl, rr, a, r, fs, v, rfl, rfl, h1, h2, h3⟩ := xgetf_e h
    cases rr with
    | nil => cases hok
    | cons q2 rr =>
      obtain ⟨v2, ty⟩ := q2
      obtain ⟨C, T, N, ty0, f1, f2, f3, f4, f5, f6, -, -⟩ := hC.1 _ (xlk_mem (of_decide_eq_true hok))
      intro hn hm ls H locs hl hP hD hS
      have hv : (fs.map (xcV ad))[sl]? = some (xcV ad v) := by rw [List.getElem?_map, ← xnth_eq, h2]; rfl
      rcases f6 with f6 | ⟨host, f6⟩
      · exact va_get hx hb hts f3 hown hK hP a (xcH_at h1) f1 sl f2 (hts _ f6) (fun _ z => z) hv hi (hk _ _ _ _ h3 hn hm ls H locs hl hP hD hS)
      · exact va_getN hx hb hts f3 hown hK hP a (xcH_at h1) f1 sl f2 (hN _ f6) (fun _ z => z) hv hi (hk _ _ _ _ h3 hn hm ls H locs hl hP hD hS)
  | putfield j =>
    obtain ⟨h0, hok⟩ := xb2 hok
    obtain rfl : n = 3 := xn h0
    dsimp only [xstep] at h
    obtain ⟨v0, ci, v1, sl, v2, ty, rr, x, a, r, fs, w, rfl, rfl, h1, h2, h3, h⟩ := xputf_e h
    obtain ⟨C, T, N, ty0, f1, f2, f3, f4, f5, f6, f7, f8⟩ := hC.1 _ (xlk_mem (of_decide_eq_true hok))
    intro hn hm ls H locs hl hP hD hS
    have hsl : sl < (fs.map (xcV ad)).length := by
      rw [List.length_map]
      rw [xnth_eq] at h2
      exact (List.getElem?_eq_some_iff.mp h2).1
    have hty : (T sl).2.2.2 = false ∧ ∃ ty : FieldType, parseFieldDescriptor (T sl).2.2.1 = some ty ∧ narrow ty (.int x) = .int x ∧ fits ty (.int x) = true := by
      rcases h3 with rfl | ⟨rfl, h3⟩
      · exact ⟨(f7 rfl).1, .int, by rw [f4 sl f2, (f7 rfl).2], rfl, rfl⟩
      · refine ⟨(f8 rfl).1, .boolean, by rw [f4 sl f2, (f8 rfl).2], ?_⟩
        rcases h3 with rfl | rfl
        · exact ⟨by decide, by decide⟩
        · exact ⟨by decide, by decide⟩
    obtain ⟨g1, ty', g2, g3, g4⟩ := hty
    have key : ∀ (H1 : Heap) (locs1 : List Loc), va_P D vwCl ((xcH ad cI 0 ws).set a (ad a, .inr (ci, (fs.map (xcV ad)).set sl (.int x)))) H1 → va_D A ((xcH ad cI 0 ws).set a (ad a, .inr (ci, (fs.map (xcV ad)).set sl (.int x)))) → va_S A s.heap H1 locs1 → W p l e R s m args below meth c H1 locs1 0 0 Q (F0 m (pc + 3) ls (r.map (xcV ad))) := by
      intro H1 locs1 hP1 hD1 hS1
      have e1 : xcH ad cI 0 (ws.set a (.inr (ci, fs.set sl (.int x)))) = (xcH ad cI 0 ws).set a (ad a, .inr (ci, (fs.map (xcV ad)).set sl (.int x))) := by
        rw [xcH_set, Nat.zero_add]
        simp only [xcE, List.map_set, xcV]
      exact hk _ _ _ _ h (by rw [List.length_set]; exact hn) hm ls H1 locs1 hl (by rw [e1]; exact hP1) (by rw [e1]; exact hD1) hS1
    rcases f6 with f6 | ⟨host, f6⟩
    · exact va_put hx hb hts f3 ty0 f4 f5 hown hK hP hD hS a (xcH_at h1) f1 sl f2 (hts _ f6) (fun _ z => z) g1 g2 g3 g4 hsl hi key
    · exact va_putN hx hb hts f3 ty0 f4 f5 hown hK hP hD hS a (xcH_at h1) f1 sl f2 (hN _ f6) (fun _ z => z) g1 g2 g3 g4 hsl hi key
  | iaload =>
    obtain rfl : n = 1 := xn hok
    dsimp only [xstep] at h
    obtain ⟨i, a, r, n, g, rfl, h1, h2, h⟩ := xiald_e h
    exact fun hn hm ls H locs hl hP hD hS => va_iald hx hb hK hP a 0 (xcH_at h1) rfl h2 hi (hk _ _ _ _ h hn hm ls H locs hl hP hD hS)
  | iastore =>
    obtain rfl : n = 1 := xn hok
    dsimp only [xstep] at h
    obtain ⟨x, i, a, r, n, g, rfl, h1, h2, h⟩ := xiast_e h
    intro hn hm ls H locs hl hP hD hS
    refine va_iast hx hb hK hP hD hS a 0 (xcH_at h1) rfl h2 hi (fun H1 locs1 hP1 hD1 hS1 => ?_)
    have e1 : xcH ad cI 0 (ws.set a (.inl (n, upd g i.toNatClampNeg x))) = (xcH ad cI 0 ws).set a (ad a, .inl (cI, n, .inl (upd g i.toNatClampNeg x))) := by
      rw [xcH_set, Nat.zero_add]; rfl
    exact hk _ _ _ _ h (by rw [List.length_set]; exact hn) hm ls H1 locs1 hl (by rw [e1]; exact hP1) (by rw [e1]; exact hD1) hS1
  | arraylength =>
    obtain rfl : n = 1 := xn hok
    dsimp only [xstep] at h
    obtain ⟨a, r, n, g, rfl, h1, h⟩ := xalen_e h
    exact fun hn hm ls H locs hl hP hD hS => va_alen hx hb hK hP a 0 (xcH_at h1) rfl rfl hi (hk _ _ _ _ h hn hm ls H locs hl hP hD hS)
  | goto o =>
    obtain ⟨h0, hok⟩ := xb2 hok
    obtain rfl : n = 3 := xn h0
    dsimp only [xstep] at h
    obtain ⟨w, t, r, rfl, h⟩ := xtgt_e h
    exact fun hn hm ls H locs hl hP hD hS => lv_goto hx hb hi (of_decide_eq_true hok) (hk _ _ _ _ h hn hm ls H locs hl hP hD hS)
  | ifCond cd o =>
    obtain ⟨h0, hok⟩ := xb2 hok
    obtain rfl : n = 3 := xn h0
    dsimp only [xstep] at h
    obtain ⟨w, t, rr, x, r, rfl, rfl, h⟩ := xcnd_e h
    exact fun hn hm ls H locs hl hP hD hS => xcmp_0 hx hb hi (of_decide_eq_true hok) h (fun q => hk _ _ _ _ q hn hm ls H locs hl hP hD hS) (fun q => hk _ _ _ _ q hn hm ls H locs hl hP hD hS)
  | if_icmp cd o =>
    obtain ⟨h0, hok⟩ := xb2 hok
    obtain rfl : n = 3 := xn h0
    dsimp only [xstep] at h
    obtain ⟨w, t, rr, x, y, r, rfl, rfl, h⟩ := xcnd2_e h
    exact fun hn hm ls H locs hl hP hD hS => xcmp_2 hx hb hi (of_decide_eq_true hok) h (fun q => hk _ _ _ _ q hn hm ls H locs hl hP hD hS) (fun q => hk _ _ _ _ q hn hm ls H locs hl hP hD hS)
  | tableswitch d lo hi0 offs =>
    dsimp only [xstep] at h
    obtain ⟨w, dt, cs, x, r, rfl, rfl, h⟩ := xswi_e h
    obtain ⟨h0, hok⟩ := xb2 hok
    obtain ⟨h0, h00⟩ := xb2 h0
    have h0 : (pc : Int) + d = (dt : Int) := of_decide_eq_true h0
    have h00 : hi0 = lo + (offs.size : Int) - 1 := of_decide_eq_true h00
    have hok : cs.map (fun q => (q.1.toInt, (q.2 : Int))) = offs.toList.zipIdx.map (fun q => (lo + (q.2 : Int), (pc : Int) + q.1)) := of_decide_eq_true hok
    intro hn hm ls H locs hl hP hD hS
    rcases xsw_e h with ⟨i, key, t, g1, g2, g3, -⟩ | ⟨g1, g2⟩
    · have e1 : (cs.map (fun q => (q.1.toInt, (q.2 : Int))))[i]? = some (key.toInt, (t : Int)) := by rw [List.getElem?_map, g1]; rfl
      rw [hok, List.getElem?_map, List.getElem?_zipIdx] at e1
      cases ho : offs.toList[i]? with
      | none => rw [ho] at e1; cases e1
      | some o =>
        rw [ho] at e1
        simp only [Option.map_some, Option.some.injEq, Prod.mk.injEq, Nat.zero_add] at e1
        have hlt : i < offs.toList.length := (List.getElem?_eq_some_iff.mp ho).1
        rw [Array.length_toList] at hlt
        subst g2
        refine lv_tableIn hx hb hi (by omega) (by omega) (off := o) ?_ e1.2 (hk _ _ _ _ g3 hn hm ls H locs hl hP hD hS)
        rw [show (x.toInt - lo).toNat = i by omega]
        simpa using ho
    · refine lv_tableOut hx hb hi ?_ h0 (hk _ _ _ _ g2 hn hm ls H locs hl hP hD hS)
      rcases Int.lt_or_le x.toInt lo with q | q
      · exact Or.inl q
      · refine Or.inr ?_
        rcases Int.lt_or_le hi0 x.toInt with q2 | q2
        · exact q2
        · exfalso
          have hlt : (x.toInt - lo).toNat < offs.toList.length := by rw [Array.length_toList]; omega
          have e1 : (offs.toList.zipIdx.map (fun q => (lo + (q.2 : Int), (pc : Int) + q.1)))[(x.toInt - lo).toNat]? = some (x.toInt, (pc : Int) + offs.toList[(x.toInt - lo).toNat]) := by
            rw [List.getElem?_map, List.getElem?_zipIdx, List.getElem?_eq_getElem hlt]
            simp only [Option.map_some, Nat.zero_add]
            rw [show lo + (((x.toInt - lo).toNat : Nat) : Int) = x.toInt by omega]
          rw [← hok, List.getElem?_map] at e1
          cases hc : cs[(x.toInt - lo).toNat]? with
          | none => rw [hc] at e1; cases e1
          | some q =>
            rw [hc] at e1
            simp only [Option.map_some, Option.some.injEq, Prod.mk.injEq] at e1
            exact g1 q (List.mem_of_getElem? hc) (Int32.toInt_inj.mp e1.1.symm)
  | lookupswitch d ps =>
    dsimp only [xstep] at h
    obtain ⟨w, dt, cs, x, r, rfl, rfl, h⟩ := xswi_e h
    obtain ⟨h0, h2⟩ := xb2 hok
    obtain ⟨h0, h1⟩ := xb2 h0
    intro hn hm ls H locs hl hP hD hS
    obtain ⟨t, g1, g2⟩ := xlook (of_decide_eq_true h1) (of_decide_eq_true h0) h
    exact lv_lookup hx hb hi h2 rfl g1 (hk _ _ _ _ g2 hn hm ls H locs hl hP hD hS)
  | invokestatic j =>
    dsimp only [xstep] at h
    unfold xmin at h
    split at h
    next v0 c0 q rr =>
      obtain ⟨h0, hok⟩ := xb2 hok
      obtain rfl : n = 3 := xn h0
      obtain ⟨h1, h2⟩ := xb2 hok
      have hc0 : c0 = 0 := xn h2
      subst hc0
      obtain ⟨m1, m2, m3, m4⟩ := (hC.2.2.2 _ (xlk_mem (of_decide_eq_true h1))).1 rfl
      split at h
      next x y r =>
        split at h
        next hr =>
          intro hn hm ls H locs hl hP hD hS
          refine va_mmin hx hb (by rw [hl.1, hm]; exact hml) hown (hts _ m1) (hts _ m2) (hts _ m3) (hts _ m4) hfr ?_ (Nat.zero_le _) (Nat.zero_le _) hi (hk _ _ _ _ h hn hm ls H locs hl hP hD hS)
          have h3 := Nat.le_of_ble_eq_true hr
          have h4 : ((r.map (xcV ad)).map fun v => v.category) = r.map fun v => v.category := by
            rw [List.map_map]
            exact List.map_congr_left (fun v _ => xcV_cat ad v)
          show (((r.map (xcV ad)).map fun v => v.category)).sum + 13 ≤ R.locals
          rw [h4]
          unfold xcat at h3
          omega
        · exact h.elim
      · exact h.elim
    · exact hd h
  | _ => exact hd h
end XS
end
section
/-! a contract of the abstract machine is one of the real machine's -/
def xMOk (Ts nl : List Cond) (Ms : List xM) (M : xM) : Prop :=
  plainName M.1.cls = true ∧ Cond.code M.1 M.2.1 M.2.2.1 M.2.2.2.1 ∈ Ts ∧ M.2.2.1 ≤ 40 ∧ xtok M.2.1 M.2.2.2.2.2.1 M.2.2.2.2.1 = true ∧ M.2.2.2.2.2.1.1 = M.1.cls ∧ Cond.initialized M.1.cls ∈ Ts ∧ (M.2.2.2.2.2.2 = true → Cond.static M.1 ∈ Ts) ∧ (M.2.2.2.2.2.2 = false → Cond.instanceMethod M.1 ∈ Ts ∧ Cond.selects M.1.cls M.1 M.1 ∈ Ts) ∧ (M.1.cls ≠ "java/lang/invoke/MethodHandle" ∧ M.1.cls ≠ "java/lang/invoke/VarHandle") ∧ xCOk Ts nl Ms M.2.2.2.2.2.1
def xOK (Ts nl : List Cond) (Ms : List xM) : Prop := (∀ w ∈ Ts, goodWord w = true) ∧ (∀ w ∈ nl, ∃ a i b n d h, w = Cond.fieldLinkNest a i b n d h) ∧ ∀ c M, xnth Ms c = some M → c ≠ 0 → xMOk Ts nl Ms M
def xRm (d : Nat) : Room := { frames := d, cells := 0, slots := 0, locals := 60 * d }
def xNw (nl : List Cond) (U : State) : Prop := ∀ w ∈ nl, va_Nw w U
def xPc (nl : List Cond) (D : va_G) (cI : ClassId) (ad : Nat → Nat) (as : List Value) (ws : xH) (sz : Nat) : Array Value → State → Prop := va_Pc (as.map (xcV ad)) (fun U => U.heap.size = sz ∧ va_P D vwCl (xcH ad cI 0 ws) U.heap ∧ va_K D vwCl [(cI, .int)] U ∧ va_D (fun _ => True) (xcH ad cI 0 ws) ∧ xNw nl U)
def xQc (D : va_G) (cI : ClassId) (ad : Nat → Nat) (ws : xH) (sz : Nat) (Post : xPost) : Array Value → State → Outcome → State → Prop := fun _ st oc t => (∃ (v : Option Value) (ws' : xH), oc = .returned v ∧ xnum v ∧ Post v ws' ∧ ws'.length = ws.length ∧ va_P D vwCl (xcH ad cI 0 ws') t.heap) ∧ va_F (va_A (xcH ad cI 0 ws) sz) st t
theorem xtok_e {code : ByteArray} {K : xC} {tb : xT} {pc : Nat} {i : xI} (h : xtok code K tb = true) (hi : xlk tb pc = some i) : decode code pc = .ok (i.1, i.2.1) ∧ xok K pc i = true := by
  have h1 := List.all_eq_true.mp h _ (xlk_mem hi)
  obtain ⟨h2, h3⟩ := xb2 h1
  exact ⟨of_decide_eq_true h2, h3⟩
theorem xcV_r (ad : Nat → Nat) (pl : List Nat) (v : Value) : xcV ad (xrV pl v) = xcV (fun j => ad ((xnth pl j).getD 0)) v := by cases v <;> rfl
theorem xcE_r (ad : Nat → Nat) (cI : ClassId) (pl : List Nat) (e : xE) : xcE ad cI (xrE pl e) = xcE (fun j => ad ((xnth pl j).getD 0)) cI e := by
  rcases e with ⟨n, f⟩ | ⟨c, fs⟩
  · rfl
  · simp only [xrE, xcE, List.map_map]
    congr 2
    exact List.map_congr_left (fun v _ => xcV_r ad pl v)
theorem xsub_e {pl : List Nat} {wc ws : xH} (h : xsub pl wc ws) : pl.length = wc.length ∧ ∀ (j : Nat) (e : xE), xnth wc j = some e → ∃ p, pl[j]? = some p ∧ xnth ws p = some (xrE pl e) := by
  unfold xsub at h
  refine ⟨by simpa using congrArg List.length h, fun j e he => ?_⟩
  have h1 : (wc.map (fun e => some (xrE pl e)))[j]? = some (some (xrE pl e)) := by rw [List.getElem?_map, ← xnth_eq, he]; rfl
  rw [← h, List.getElem?_map] at h1
  cases hp : pl[j]? with
  | none => rw [hp] at h1; cases h1
  | some p => rw [hp] at h1; exact ⟨p, rfl, Option.some.inj h1⟩
theorem xput_len (pl : List Nat) : ∀ (ps : List Nat) (es ws : xH), (xput pl ps es ws).length = ws.length
  | [], _, _ => rfl
  | _ :: _, [], _ => rfl
  | p :: ps, e :: es, ws => by
    unfold xput
    rw [xput_len pl ps es, List.length_set]
theorem xput_out (pl : List Nat) : ∀ (ps : List Nat) (es ws : xH) (k : Nat), k ∉ ps → xnth (xput pl ps es ws) k = xnth ws k
  | [], _, _, _, _ => rfl
  | _ :: _, [], _, _, _ => rfl
  | p :: ps, e :: es, ws, k, h => by
    unfold xput
    rw [xput_out pl ps es _ k (fun q => h (List.mem_cons_of_mem _ q)), xnth_eq, xnth_eq, List.getElem?_set_ne]
    exact fun q => h (by rw [q]; exact List.mem_cons_self)
theorem xput_in (pl : List Nat) : ∀ (ps : List Nat) (es ws : xH) (j p : Nat) (e : xE), va_nd ps = true → ps[j]? = some p → es[j]? = some e → p < ws.length → xnth (xput pl ps es ws) p = some (xrE pl e)
  | [], _, _, _, _, _, _, h, _, _ => by simp at h
  | _ :: _, [], _, _, _, _, _, _, h, _ => by simp at h
  | p0 :: ps, e0 :: es, ws, 0, p, e, hn, h1, h2, h3 => by
    simp only [List.getElem?_cons_zero, Option.some.injEq] at h1 h2
    subst h1; subst h2
    simp only [va_nd, Bool.and_eq_true, decide_eq_true_eq] at hn
    unfold xput
    rw [xput_out pl ps es _ _ hn.1, xnth_eq, List.getElem?_set_self h3]
  | p0 :: ps, e0 :: es, ws, j + 1, p, e, hn, h1, h2, h3 => by
    rw [List.getElem?_cons_succ] at h1 h2
    simp only [va_nd, Bool.and_eq_true, decide_eq_true_eq] at hn
    unfold xput
    exact xput_in pl ps es _ j p e hn.2 h1 h2 (by rw [List.length_set]; exact h3)
theorem xnth_lt {α : Type} {l : List α} {k : Nat} {a : α} (h : xnth l k = some a) : k < l.length := by
  rw [xnth_eq] at h
  exact (List.getElem?_eq_some_iff.mp h).1
theorem xnth_of_lt {α : Type} {l : List α} {k : Nat} (h : k < l.length) : ∃ a, xnth l k = some a := ⟨l[k], by rw [xnth_eq]; exact List.getElem?_eq_getElem h⟩
section XC
variable {D : va_G} {A : Nat → Prop} {ad : Nat → Nat} {cI : ClassId} {pl : List Nat} {wc ws : xH} {H H1 : Heap}
theorem xc_P (hs : xsub pl wc ws) (hP : va_P D vwCl (xcH ad cI 0 ws) H) : va_P D vwCl (xcH (fun j => ad ((xnth pl j).getD 0)) cI 0 wc) H := by
  intro k q hq
  obtain ⟨e, h1, rfl⟩ := xcH_of hq
  obtain ⟨p, h2, h3⟩ := (xsub_e hs).2 k e h1
  have h4 := hP p _ (xcH_at h3)
  rw [xcE_r] at h4
  rw [show (xnth pl k).getD 0 = p by rw [xnth_eq, h2]; rfl]
  exact h4
theorem xc_D (hs : xsub pl wc ws) (hn : va_nd pl = true) (hD : va_D A (xcH ad cI 0 ws)) : va_D A (xcH (fun j => ad ((xnth pl j).getD 0)) cI 0 wc) := by
  refine ⟨fun i j x y hx hy hxy => ?_, fun k q hq => ?_⟩
  · obtain ⟨e1, h1, rfl⟩ := xcH_of hx
    obtain ⟨e2, h2, rfl⟩ := xcH_of hy
    obtain ⟨p1, g1, g2⟩ := (xsub_e hs).2 i e1 h1
    obtain ⟨p2, g3, g4⟩ := (xsub_e hs).2 j e2 h2
    have e := hD.1 p1 p2 _ _ (xcH_at g2) (xcH_at g4) (by
      have : ad ((xnth pl i).getD 0) = ad ((xnth pl j).getD 0) := hxy
      rw [show (xnth pl i).getD 0 = p1 by rw [xnth_eq, g1]; rfl, show (xnth pl j).getD 0 = p2 by rw [xnth_eq, g3]; rfl] at this
      exact this)
    subst e
    exact va_nd_inj pl hn i j p1 g1 g3
  · obtain ⟨e1, h1, rfl⟩ := xcH_of hq
    obtain ⟨p1, g1, g2⟩ := (xsub_e hs).2 k e1 h1
    have h3 := hD.2 p1 _ (xcH_at g2)
    rw [show (xnth pl k).getD 0 = p1 by rw [xnth_eq, g1]; rfl]
    exact h3
theorem xc_A (hs : xsub pl wc ws) {q sz : Nat} (h : va_A (xcH (fun j => ad ((xnth pl j).getD 0)) cI 0 wc) sz q) : (∃ p e, p ∈ pl ∧ xnth ws p = some e ∧ q = ad p) ∨ sz ≤ q := by
  rcases h with ⟨k, e, h⟩ | h
  · obtain ⟨e1, h1, h2⟩ := xcH_of h
    obtain ⟨p1, g1, g2⟩ := (xsub_e hs).2 k e1 h1
    refine Or.inl ⟨p1, _, List.mem_of_getElem? g1, g2, ?_⟩
    have h3 : q = ad ((xnth pl k).getD 0) := congrArg Prod.fst h2
    rw [h3, show (xnth pl k).getD 0 = p1 by rw [xnth_eq, g1]; rfl]
  · exact Or.inr h
theorem xc_J (hs : xsub pl wc ws) (hn : va_nd pl = true) (hP : va_P D vwCl (xcH ad cI 0 ws) H) (hD : va_D A (xcH ad cI 0 ws)) {wc' : xH} (hl : wc'.length = wc.length) (hP1 : va_P D vwCl (xcH (fun j => ad ((xnth pl j).getD 0)) cI 0 wc') H1)
    (hk : ∀ q : Nat, q < H.size → ¬ va_A (xcH (fun j => ad ((xnth pl j).getD 0)) cI 0 wc) H.size q → H1[q]? = H[q]?) : va_P D vwCl (xcH ad cI 0 (xput pl pl wc' ws)) H1 ∧ va_D A (xcH ad cI 0 (xput pl pl wc' ws)) := by
  have hlen := (xsub_e hs).1
  have key : ∀ (k : Nat) (e : xE), xnth (xput pl pl wc' ws) k = some e → ∃ e0, xnth ws k = some e0 := fun k e h => xnth_of_lt (by rw [← xput_len pl pl wc' ws]; exact xnth_lt h)
  refine ⟨fun k q hq => ?_, fun i j x y hx hy hxy => ?_, fun k q hq => ?_⟩
  · obtain ⟨e, h1, rfl⟩ := xcH_of hq
    obtain ⟨e0, h0⟩ := key k e h1
    by_cases hin : k ∈ pl
    · obtain ⟨j, hj⟩ := List.getElem?_of_mem hin
      have hjl : j < wc'.length := by rw [hl, ← hlen]; exact (List.getElem?_eq_some_iff.mp hj).1
      have h2 := xput_in pl pl wc' ws j k wc'[j] hn hj (List.getElem?_eq_getElem hjl) (xnth_lt h0)
      rw [h1] at h2
      cases h2
      have h3 := hP1 j _ (xcH_at (e := wc'[j]) (by rw [xnth_eq]; exact List.getElem?_eq_getElem hjl))
      rw [xcE_r]
      rw [show (xnth pl j).getD 0 = k by rw [xnth_eq, hj]; rfl] at h3
      exact h3
    · rw [xput_out pl pl wc' ws k hin] at h1
      have h2 := hP k _ (xcH_at h1)
      refine h2.kept (hk _ h2.lt (fun h => ?_))
      rcases xc_A hs h with ⟨p, e1, g1, g2, g3⟩ | h
      · have := hD.1 k p _ _ (xcH_at h1) (xcH_at g2) g3
        exact hin (by rw [this]; exact g1)
      · exact absurd h2.lt (Nat.not_lt.mpr h)
  · obtain ⟨e1, h1, rfl⟩ := xcH_of hx
    obtain ⟨e2, h2, rfl⟩ := xcH_of hy
    obtain ⟨f1, g1⟩ := key i e1 h1
    obtain ⟨f2, g2⟩ := key j e2 h2
    exact hD.1 i j _ _ (xcH_at g1) (xcH_at g2) hxy
  · obtain ⟨e1, h1, rfl⟩ := xcH_of hq
    obtain ⟨f1, g1⟩ := key k e1 h1
    have h3 := hD.2 k _ (xcH_at (ad := ad) (cI := cI) g1)
    exact h3
end XC
theorem xPc_blind {nl : List Cond} (hnl : ∀ w ∈ nl, ∃ a i b n d h, w = Cond.fieldLinkNest a i b n d h) {D : va_G} {cI : ClassId} {ad : Nat → Nat} {as : List Value} {ws : xH} {sz : Nat} : FrameBlind (xPc nl D cI ad as ws sz) := by
  intro a U g mk q
  obtain ⟨q0, q1, q2, q3, q4, q5⟩ := q
  refine ⟨q0, q1, q2, va_K.moved (u := U) (U := U.calling g mk a) (Vm.Alike.refl U.vm) q3, q4, fun w hw => ?_⟩
  obtain ⟨a1, i1, b1, n1, d1, h1, rfl⟩ := hnl w hw
  exact va_Nw.same rfl rfl (q5 _ hw)
theorem xent_Rl {ad : Nat → Nat} {as : List Value} {n : Nat} (h : (xsl as).length ≤ n) : ∃ ls : Array Slot, (∀ m : MethodId, entryFrame m (as.map (xcV ad)).toArray n = F0 m 0 ls []) ∧ xRl ad ls (xent as n) := by
  have hlen : ∀ as : List Value, (lg_sl (as.map (xcV ad))).length = (xsl as).length := by
    intro as
    induction as with
    | nil => rfl
    | cons v t ih => cases v <;> simp [lg_sl, xsl, xcV, Value.category] at ih ⊢ <;> omega
  have hl := lv_entry (as.map (xcV ad)) (n := n) (by rw [hlen]; exact h)
  refine ⟨_, fun m => lg_entry_eq m _ n, ?_, hl.2.1, fun i v hv => ?_⟩
  · rw [hl.1]
    unfold xent
    rw [List.length_append, List.length_replicate]
    omega
  · refine hl.2.2 (i, xcV ad v) ?_
    have key : ∀ (as : List Value) (i j : Nat) (v : Value) (k : Nat), (xsl as ++ List.replicate k none)[i]? = some (some v) → (j + i, xcV ad v) ∈ lv_args j (as.map (xcV ad)) := by
      intro as
      induction as with
      | nil =>
        intro i j v k h
        simp only [xsl, List.nil_append] at h
        have := List.eq_of_mem_replicate (List.mem_of_getElem? h)
        cases this
      | cons w t ih =>
        intro i j v k h
        have two : ∀ (w : Value), w.category = 2 → (some w :: none :: (xsl t ++ List.replicate k none))[i]? = some (some v) → (j + i, xcV ad v) ∈ (j, xcV ad w) :: lv_args (j + 2) (t.map (xcV ad)) := by
          intro w _ h
          cases i with
          | zero =>
            simp only [List.getElem?_cons_zero, Option.some.injEq] at h
            subst h
            exact List.mem_cons_self
          | succ i =>
            cases i with
            | zero => simp at h
            | succ i =>
              rw [List.getElem?_cons_succ, List.getElem?_cons_succ] at h
              have := ih i (j + 2) v k h
              rw [show j + 2 + i = j + (i + 1 + 1) by omega] at this
              exact List.mem_cons_of_mem _ this
        have one : ∀ (w : Value), (some w :: (xsl t ++ List.replicate k none))[i]? = some (some v) → (j + i, xcV ad v) ∈ (j, xcV ad w) :: lv_args (j + 1) (t.map (xcV ad)) := by
          intro w h
          cases i with
          | zero =>
            simp only [List.getElem?_cons_zero, Option.some.injEq] at h
            subst h
            exact List.mem_cons_self
          | succ i =>
            rw [List.getElem?_cons_succ] at h
            have := ih i (j + 1) v k h
            rw [show j + 1 + i = j + (i + 1) by omega] at this
            exact List.mem_cons_of_mem _ this
        cases w with
        | long x => exact two (.long x) rfl h
        | double x => exact two (.double x) rfl h
        | int x => exact one (.int x) h
        | float x => exact one (.float x) h
        | null => exact one .null h
        | ref x => exact one (.ref x) h
        | retAddr x => exact one (.retAddr x) h
    have := key as i 0 v _ hv
    rw [Nat.zero_add] at this
    exact this

set_option maxHeartbeats 4000000 in
theorem x_sound {Ts nl : List Cond} {Ms : List xM} (hOK : xOK Ts nl Ms) (l : Launch) : ∀ (d c : Nat) (M : xM) (as : List Value) (ws : xH) (Post : xPost), xnth Ms c = some M → c ≠ 0 → xCt Ms d c as ws Post → ∀ (D : va_G) (cI : ClassId) (ad : Nat → Nat) (sz : Nat),
    Met l M.1 (Cond.code M.1 M.2.1 M.2.2.1 M.2.2.2.1 :: Ts) (xRm d) (xPc nl D cI ad as ws sz) (xQc D cI ad ws sz Post) 0 0 (va_A (xcH ad cI 0 ws) sz) := by
  obtain ⟨hgood, hnl, hMs⟩ := hOK
  intro d
  induction d with
  | zero => intro c M as ws Post _ _ h; exact h.elim
  | succ d ih =>
    intro c0 M as ws Post hM hc0 hCt D cI ad sz
    obtain ⟨M', hM', -, hsl, hG⟩ := hCt
    cases hM.symm.trans hM'
    obtain ⟨o1, o2, o3, o4, o5, o6, o7, o8, o9, o10⟩ := hMs c0 M hM hc0
    refine Met.ofW (cc := M.2.1) (maxL := M.2.2.1) (ret := M.2.2.2.1) o1 rfl ?_
    intro p e s m args below meth c s₁ B hml hv
    obtain ⟨rfl, hsz, hP, hK, hD0, hNw⟩ := hv
    have hx := B.exec
    have hb := B.bytes
    have hr := B.returns
    have hlocks := B.notSynchronized
    have hts0 := atoms_spec (ws := Cond.code M.1 M.2.1 M.2.2.1 M.2.2.2.1 :: Ts) B.pre
    have hts : ∀ w ∈ Ts, w.before (as.map (xcV ad)).toArray s = true := fun w hw => hts0 w (List.mem_cons_of_mem _ hw)
    have hown : s.vm.findClass M.2.2.2.2.2.1.1 = some m.cls := by rw [o5]; exact findClass_of_methodNamed B.named
    have hN : ∀ w ∈ nl, w.before (as.map (xcV ad)).toArray s = true := fun w hw => by
      have h1 := hNw w hw
      obtain ⟨a1, i1, b1, n1, d1, h1', rfl⟩ := hnl w hw
      exact va_Nw.use rfl h1
    subst hsz
    have hD := hD0.self (sz := s.heap.size)
    obtain ⟨ls, hls, hRl⟩ := xent_Rl (ad := ad) (as := as) (n := M.2.2.1) (Nat.le_of_ble_eq_true hsl)
    rw [hls m]
    have hentl : (xent as M.2.2.1).length = M.2.2.1 := by
      unfold xent
      rw [List.length_append, List.length_replicate]
      have := Nat.le_of_ble_eq_true hsl
      omega
    refine hG (xGW p l e (headSpec (Cond.code M.1 M.2.1 M.2.2.1 M.2.2.2.1 :: Ts) (xRm (d + 1))).room s m (as.map (xcV ad)).toArray below meth c (MQ below (xQc D cI ad ws s.heap.size Post) (as.map (xcV ad)).toArray s 0 0 (va_A (xcH ad cI 0 ws) s.heap.size)) D (va_A (xcH ad cI 0 ws) s.heap.size) ad cI ws.length M.2.2.1) ?_ ⟨?_, ?_, ?_⟩ ?_ rfl hentl ls s.heap [] hRl hP hD va_S.rf
    · intro pc i loc st ws' k hi hk h
      obtain ⟨h1, h2⟩ := xtok_e o4 hi
      exact xstep_ok (K := M.2.2.2.2.2.1) (Ms := Ms) hx hb hml hown hts hN hnl hK o10 (show 1 ≤ d + 1 by omega) (show 21 ≤ 60 * (d + 1) by omega) h1 h2 hk id h
    · intro pc n an j loc ws' x hi hret hp hn hm ls H locs hl hP hD hS
      obtain ⟨h1, h2⟩ := xtok_e o4 hi
      have hn1 : n = 1 := xn h2
      subst hn1
      have hq : ∀ t : State, t.heap = H → s.WarmedH t.vm → xQc D cI ad ws s.heap.size Post (as.map (xcV ad)).toArray s (.returned (some (.int x))) t := fun t ht hW => ⟨⟨some (.int x), ws', rfl, Or.inr (Or.inl ⟨x, rfl⟩), hp, hn, by rw [ht]; exact hP⟩, hS.F ht⟩
      rcases hret with hret | ⟨hret, h01⟩
      · exact W.iret hx hb (by rw [hr, hret]) hq hS.2.2 h1
      · refine W.zret (ty := .boolean) hx hb (by rw [hr, hret]) ?_ hq hS.2.2 h1
        rcases h01 with rfl | rfl <;> decide
    · intro pc n an j loc ws' x hi hret hp hn hm ls H locs hl hP hD hS
      obtain ⟨h1, h2⟩ := xtok_e o4 hi
      have hn1 : n = 1 := xn h2
      subst hn1
      have hq : ∀ t : State, t.heap = H → s.WarmedH t.vm → xQc D cI ad ws s.heap.size Post (as.map (xcV ad)).toArray s (.returned (some (.long x))) t := fun t ht hW => ⟨⟨some (.long x), ws', rfl, Or.inr (Or.inr ⟨x, rfl⟩), hp, hn, by rw [ht]; exact hP⟩, hS.F ht⟩
      exact W.lret hx hb (by rw [hr, hret]) hq hS.2.2 h1
    · intro pc n an j loc ws' hi hret hp hn hm ls H locs hl hP hD hS
      obtain ⟨h1, h2⟩ := xtok_e o4 hi
      have hn1 : n = 1 := xn h2
      subst hn1
      have hq : ∀ t : State, t.heap = H → s.WarmedH t.vm → xQc D cI ad ws s.heap.size Post (as.map (xcV ad)).toArray s (.returned none) t := fun t ht hW => ⟨⟨none, ws', rfl, Or.inl rfl, hp, hn, by rw [ht]; exact hP⟩, hS.F ht⟩
      exact W.vret hx hb (by rw [hr, hret]) hq hS.2.2 h1
    · intro pc x n c1 M1 v0 j loc st rest ws' as1 pl wc PC hM1 hi hst hrest hnd hsub hCl hk hn hm ls H locs hl hP hD hS
      obtain ⟨h1, h2⟩ := xtok_e o4 hi
      have hc1 : c1 ≠ 0 ∧ n = 3 ∧ Cond.methodLink M.2.2.2.2.2.1.1 x M1.1 ∈ Ts := by
        have key : Nat.beq n 3 = true → (decide (xlk M.2.2.2.2.2.1.2.2.2.2 x = some c1) && !Nat.beq c1 0) = true → c1 ≠ 0 ∧ n = 3 ∧ Cond.methodLink M.2.2.2.2.2.1.1 x M1.1 ∈ Ts := by
          intro h3 h4
          obtain ⟨h5, h6⟩ := xb2 h4
          have hc1 : c1 ≠ 0 := fun q => by rw [q] at h6; cases h6
          exact ⟨hc1, xn h3, (o10.2.2.2 _ (xlk_mem (of_decide_eq_true h5))).2 hc1 M1 hM1⟩
        cases hs : M1.2.2.2.2.2.2 with
        | true => rw [hs] at h2; obtain ⟨h3, h4⟩ := xb2 h2; exact key h3 h4
        | false => rw [hs] at h2; obtain ⟨h3, h4⟩ := xb2 h2; exact key h3 h4
      obtain ⟨hc1, rfl, hlk⟩ := hc1
      obtain ⟨p1, p2, p3, p4, p5, p6, p7, p8, p9, p10⟩ := hMs c1 M1 hM1 hc1
      have hmet := ih c1 M1 as1 wc PC hM1 hc1 hCl D cI (fun j => ad ((xnth pl j).getD 0)) H.size
      have hPc := xc_P hsub hP
      have hDc := xc_D hsub hnd hD
      have hfree : ∀ q, va_A (xcH (fun j => ad ((xnth pl j).getD 0)) cI 0 wc) H.size q → va_A (xcH ad cI 0 ws) s.heap.size q := by
        intro q hq
        rcases xc_A hsub hq with ⟨p0, e0, -, g2, rfl⟩ | h
        · exact hD.2 p0 _ (xcH_at g2)
        · exact Or.inr (Nat.le_trans hS.1 h)
      have hst' : st.map (xcV ad) = (as1.map (xcV (fun j => ad ((xnth pl j).getD 0)))).reverse ++ rest.map (xcV ad) := by
        rw [hst, List.map_append, List.map_reverse, List.map_map]
        congr 2
        exact List.map_congr_left (fun v _ => xcV_r ad pl v)
      have hpay : ∀ w ∈ (Cond.code M1.1 M1.2.1 M1.2.2.1 M1.2.2.2.1 :: Ts), ∀ (a' : Array Value) (U : State), s.WarmedH U.vm → w.before a' U = true := pay_in hts (fun w hw => by
        have : w ∈ Ts := by
          rcases List.mem_cons.mp hw with rfl | hw
          · exact p2
          · exact hw
        exact ⟨this, good_of_word (hgood w this)⟩)
      have hcat : ((rest.map (xcV ad)).map fun v => v.category).sum ≤ 8 := by
        rw [List.map_map]
        have e1 : rest.map ((fun v => v.category) ∘ xcV ad) = rest.map fun v => v.category := List.map_congr_left (fun v _ => xcV_cat ad v)
        rw [e1]
        exact Nat.le_of_ble_eq_true hrest
      have hlo : 8 + (M1.2.2.1 + 11) + (xRm d).locals ≤ (headSpec (Cond.code M.1 M.2.1 M.2.2.1 M.2.2.2.1 :: Ts) (xRm (d + 1))).room.locals := by
        show 8 + (M1.2.2.1 + 11) + 60 * d ≤ 60 * (d + 1)
        omega
      have hpre : ∀ U : State, U.heap = H → s.WarmedH U.vm → xPc nl D cI (fun j => ad ((xnth pl j).getD 0)) as1 wc H.size (as1.map (xcV (fun j => ad ((xnth pl j).getD 0)))).toArray U := by
        intro U hU hW
        refine ⟨rfl, by rw [hU], by rw [hU]; exact hPc, va_K.moved hW.alike hK, hDc.weaken (fun _ _ _ _ => trivial), fun w hw => ?_⟩
        have h1 := hNw w hw
        obtain ⟨a1, i1, b1, n1, d1, h1', rfl⟩ := hnl w hw
        exact va_Nw.warmF hW h1
      have hsz : (F0 m pc ls (st.map (xcV ad))).locals.size = M.2.2.1 := by
        show ls.size = _
        rw [hl.1, hm]
      have hfix : CallFix p m c M.2.1 M.2.2.1 s (as.map (xcV ad)).toArray Ts M.2.2.2.2.2.1.1 := ⟨hx, hb, hml, hown, hts⟩
      have hrun : va_Run p l e (headSpec (Cond.code M.1 M.2.1 M.2.2.1 M.2.2.2.1 :: Ts) (xRm (d + 1))).room s m (as.map (xcV ad)).toArray below meth c H locs 0 0 0 0 (F0 m pc ls (st.map (xcV ad))) (rest.map (xcV ad)) (xQc D cI (fun j => ad ((xnth pl j).getD 0)) wc H.size PC (as1.map (xcV (fun j => ad ((xnth pl j).getD 0)))).toArray) (va_A (xcH (fun j => ad ((xnth pl j).getD 0)) cI 0 wc) H.size) := by
        cases d with
        | zero => exact hCl.elim
        | succ d =>
          obtain ⟨M1', hM1', hrec, -, -⟩ := hCl
          cases hM1.symm.trans hM1'
          cases hs : M1.2.2.2.2.2.2 with
          | true =>
            rw [hs] at hrec h1
            have cb : CallB (headSpec (Cond.code M.1 M.2.1 M.2.2.1 M.2.2.2.1 :: Ts) (xRm (d + 1 + 1))).room s (as.map (xcV ad)).toArray M.2.2.2.2.2.1.1 x M1.1 M1.2.1 M1.2.2.1 M1.2.2.2.1 (Cond.code M1.1 M1.2.1 M1.2.2.1 M1.2.2.2.1 :: Ts) (xRm (d + 1)) 0 0 as1.length :=
              ⟨rfl, rfl, Nat.le_refl _, hlo, hpay, List.mem_cons_self, hts _ p2, hts _ p6, p9, fun sig h => by
                rw [h] at hrec
                exact (Option.some.inj hrec).symm, hts _ hlk⟩
            exact va_runS hfix hmet ⟨cb, hts _ (p7 hs)⟩ ⟨xPc_blind hnl, hpre⟩ rfl (by rw [List.length_map]) hsz (by show st.map (xcV ad) = _; rw [hst']) (lv_room hcat) h1 ⟨Nat.le_refl _, Nat.le_refl _⟩
          | false =>
            rw [hs] at hrec h1
            obtain ⟨a, ci, fs, r, q, rfl, ha, hq, hq2, hlen⟩ := hrec
            have cb : CallB (headSpec (Cond.code M.1 M.2.1 M.2.2.1 M.2.2.2.1 :: Ts) (xRm (d + 1 + 1))).room s (as.map (xcV ad)).toArray M.2.2.2.2.2.1.1 x M1.1 M1.2.1 M1.2.2.1 M1.2.2.2.1 (Cond.code M1.1 M1.2.1 M1.2.2.1 M1.2.2.2.1 :: Ts) (xRm (d + 1)) 0 0 r.length :=
              ⟨rfl, rfl, Nat.le_refl _, hlo, hpay, List.mem_cons_self, hts _ p2, hts _ p6, p9, fun sig h => by
                rw [h] at hlen
                exact (Option.some.inj hlen).symm, hts _ hlk⟩
            have hrecv := va_recv hK hPc hq (xcH_at ha)
            rw [hq2] at hrecv
            exact va_runV (b := ad ((xnth pl a).getD 0)) (As := r.map (xcV (fun j => ad ((xnth pl j).getD 0)))) hfix hmet ⟨cb, hts _ (p8 hs).1, hts _ (p8 hs).2⟩ ⟨xPc_blind hnl, hrecv, hpre⟩ rfl (by rw [List.length_map]) hsz (by
              show st.map (xcV ad) = _
              rw [hst']
              simp [xcV]) (lv_room hcat) h1 ⟨Nat.le_refl _, Nat.le_refl _⟩
      intro T hT X
      obtain ⟨v, st₀, t, T', L, h0, X', hL, e1, e2, ⟨⟨v', wc', hv, hnum, hpc, hwl, hP1⟩, hF⟩, hgo⟩ := hrun T hT X
      cases hv
      rw [← e1] at hP1
      have hF2 : ∀ q : Nat, q < H.size → ¬ va_A (xcH (fun j => ad ((xnth pl j).getD 0)) cI 0 wc) H.size q → T'.heap[q]? = H[q]? := by
        intro q h3 h4
        rw [e1, ← h0]
        exact hF.2 q (by rw [h0]; exact h3) h4
      obtain ⟨hP2, hD2⟩ := xc_J hsub hnd hP hD hwl hP1 hF2
      have hS2 : va_S (va_A (xcH ad cI 0 ws) s.heap.size) s.heap T'.heap (locs ++ L) := by
        refine ⟨Nat.le_trans hS.1 (by rw [e1, ← h0]; exact hF.1), fun q h3 h4 => ?_, fun q hq => ?_⟩
        · rw [hF2 q (Nat.lt_of_lt_of_le h3 hS.1) (fun z => h4 (hfree q z))]
          exact hS.2.1 q h3 h4
        · rcases List.mem_append.mp hq with h | h
          · exact hS.2.2 q h
          · exact hfree _ (hL q h)
      have hvv : (v.toList ++ rest).map (xcV ad) = v.toList ++ rest.map (xcV ad) := by
        rw [List.map_append]
        congr 1
        rcases hnum with rfl | ⟨z, rfl⟩ | ⟨z, rfl⟩ <;> rfl
      obtain ⟨t2, a1, b1⟩ := hk v wc' hpc hwl (by rw [xput_len]; exact hn) hm ls T'.heap (locs ++ L) hl hP2 hD2 hS2 T' rfl X'
      refine ⟨t2, hgo t2 ?_, b1⟩
      rw [hvv] at a1
      exact a1
end
