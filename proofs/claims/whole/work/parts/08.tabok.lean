/-! the tables are the classes' own: printed by wip/whole/gen_tabs.py -/
set_option maxRecDepth 100000 in
theorem xT_in {w : Cond} (i : Nat) (h : lw_tbl[i]? = some w) (hg : goodWord w = true) : w ∈ xTs := List.mem_filter.mpr ⟨List.mem_of_getElem? h, hg⟩
set_option maxRecDepth 100000 in
theorem xlayX1 : ∀ w ∈ wsX10, w ∈ xTs := by
  intro w hw
  have h : wsX10 = [90, 92, 94, 96, 98, 100, 102, 104, 106].filterMap (fun i => lw_tbl[i]?) := by decide +kernel
  have hg : wsX10.all goodWord = true := by decide +kernel
  refine List.mem_filter.mpr ⟨?_, List.all_eq_true.mp hg w hw⟩
  rw [h] at hw
  obtain ⟨i, -, hi⟩ := List.mem_filterMap.mp hw
  exact List.mem_of_getElem? hi
set_option maxRecDepth 100000 in
theorem xlayX2 : ∀ w ∈ wsX20, w ∈ xTs := by
  intro w hw
  have h : wsX20 = [119, 121].filterMap (fun i => lw_tbl[i]?) := by decide +kernel
  have hg : wsX20.all goodWord = true := by decide +kernel
  refine List.mem_filter.mpr ⟨?_, List.all_eq_true.mp hg w hw⟩
  rw [h] at hw
  obtain ⟨i, -, hi⟩ := List.mem_filterMap.mp hw
  exact List.mem_of_getElem? hi
set_option maxRecDepth 100000 in
theorem xlayX3 : ∀ w ∈ wsX30, w ∈ xTs := by
  intro w hw
  have h : wsX30 = [145, 147, 149, 151, 153, 155, 157, 159, 161, 163, 165].filterMap (fun i => lw_tbl[i]?) := by decide +kernel
  have hg : wsX30.all goodWord = true := by decide +kernel
  refine List.mem_filter.mpr ⟨?_, List.all_eq_true.mp hg w hw⟩
  rw [h] at hw
  obtain ⟨i, -, hi⟩ := List.mem_filterMap.mp hw
  exact List.mem_of_getElem? hi
set_option maxRecDepth 100000 in
theorem xlayX4 : ∀ w ∈ wsX40, w ∈ xTs := by
  intro w hw
  have h : wsX40 = [177, 179, 181].filterMap (fun i => lw_tbl[i]?) := by decide +kernel
  have hg : wsX40.all goodWord = true := by decide +kernel
  refine List.mem_filter.mpr ⟨?_, List.all_eq_true.mp hg w hw⟩
  rw [h] at hw
  obtain ⟨i, -, hi⟩ := List.mem_filterMap.mp hw
  exact List.mem_of_getElem? hi
set_option maxRecDepth 100000 in
theorem xlayX5 : ∀ w ∈ wsX50, w ∈ xTs := by
  intro w hw
  have h : wsX50 = [194, 196, 198, 200, 202, 204, 206, 208, 210, 212].filterMap (fun i => lw_tbl[i]?) := by decide +kernel
  have hg : wsX50.all goodWord = true := by decide +kernel
  refine List.mem_filter.mpr ⟨?_, List.all_eq_true.mp hg w hw⟩
  rw [h] at hw
  obtain ⟨i, -, hi⟩ := List.mem_filterMap.mp hw
  exact List.mem_of_getElem? hi
set_option maxRecDepth 100000 in
theorem xlayX6 : ∀ w ∈ wsX60, w ∈ xTs := by
  intro w hw
  have h : wsX60 = [649, 651, 653, 655, 657, 659, 661, 663, 665, 667, 669, 671, 673, 675, 677, 679, 681, 683, 685, 687, 689, 691, 693, 695, 697, 699, 701, 703, 705, 707, 709, 711].filterMap (fun i => lw_tbl[i]?) := by decide +kernel
  have hg : wsX60.all goodWord = true := by decide +kernel
  refine List.mem_filter.mpr ⟨?_, List.all_eq_true.mp hg w hw⟩
  rw [h] at hw
  obtain ⟨i, -, hi⟩ := List.mem_filterMap.mp hw
  exact List.mem_of_getElem? hi
set_option maxRecDepth 100000 in
theorem okJ6 : xCOk xTs xnl xMs KJ6 := ⟨fun _ h => absurd h List.not_mem_nil, List.forall_mem_cons.mpr ⟨xT_in 396 (by rfl) rfl, List.forall_mem_cons.mpr ⟨xT_in 397 (by rfl) rfl, List.forall_mem_cons.mpr ⟨xT_in 398 (by rfl) rfl, fun _ h => absurd h List.not_mem_nil⟩⟩⟩, fun _ h => absurd h List.not_mem_nil, fun _ h => absurd h List.not_mem_nil⟩
set_option maxRecDepth 100000 in
theorem xlX0_17 : (4 = 0 → Cond.methodLink KX0.1 17 Lib.Math.min.name ∈ xTs ∧ Cond.static Lib.Math.min.name ∈ xTs ∧ Cond.initialized "java/lang/Math" ∈ xTs ∧ Cond.code Lib.Math.min.name Lib.Math.min.code 2 (some .int) ∈ xTs) ∧ (4 ≠ 0 → ∀ M, xnth xMs 4 = some M → Cond.methodLink KX0.1 17 M.1 ∈ xTs) := ⟨fun h => absurd h (by decide), fun _ M h => by
  obtain rfl : M = mX0_grown := Option.some.inj (h.symm.trans (by rfl))
  exact xT_in 423 (by rfl) rfl⟩
set_option maxRecDepth 100000 in
theorem okX0 : xCOk xTs xnl xMs KX0 := ⟨fun _ h => absurd h List.not_mem_nil, List.forall_mem_cons.mpr ⟨xT_in 326 (by rfl) rfl, List.forall_mem_cons.mpr ⟨xT_in 327 (by rfl) rfl, List.forall_mem_cons.mpr ⟨xT_in 331 (by rfl) rfl, List.forall_mem_cons.mpr ⟨xT_in 332 (by rfl) rfl, List.forall_mem_cons.mpr ⟨xT_in 341 (by rfl) rfl, List.forall_mem_cons.mpr ⟨xT_in 342 (by rfl) rfl, fun _ h => absurd h List.not_mem_nil⟩⟩⟩⟩⟩⟩, fun _ h => absurd h List.not_mem_nil, List.forall_mem_cons.mpr ⟨xlX0_17, fun _ h => absurd h List.not_mem_nil⟩⟩
set_option maxRecDepth 100000 in
theorem xfX1_9 : xFOk xTs xnl KX1.1 9 0 0 2 := ⟨RX1, TX1, 9, tyX1, rfl, by decide, xlayX1, tyX1_ok, nmX1, Or.inl (xT_in 73 (by rfl) rfl), fun h => absurd h (by decide), fun h => absurd h (by decide)⟩
set_option maxRecDepth 100000 in
theorem xfX1_15 : xFOk xTs xnl KX1.1 15 0 1 2 := ⟨RX1, TX1, 9, tyX1, rfl, by decide, xlayX1, tyX1_ok, nmX1, Or.inl (xT_in 74 (by rfl) rfl), fun h => absurd h (by decide), fun h => absurd h (by decide)⟩
set_option maxRecDepth 100000 in
theorem xfX1_18 : xFOk xTs xnl KX1.1 18 0 2 2 := ⟨RX1, TX1, 9, tyX1, rfl, by decide, xlayX1, tyX1_ok, nmX1, Or.inl (xT_in 75 (by rfl) rfl), fun h => absurd h (by decide), fun h => absurd h (by decide)⟩
set_option maxRecDepth 100000 in
theorem xfX1_21 : xFOk xTs xnl KX1.1 21 0 3 2 := ⟨RX1, TX1, 9, tyX1, rfl, by decide, xlayX1, tyX1_ok, nmX1, Or.inl (xT_in 76 (by rfl) rfl), fun h => absurd h (by decide), fun h => absurd h (by decide)⟩
set_option maxRecDepth 100000 in
theorem xfX1_24 : xFOk xTs xnl KX1.1 24 0 4 2 := ⟨RX1, TX1, 9, tyX1, rfl, by decide, xlayX1, tyX1_ok, nmX1, Or.inl (xT_in 78 (by rfl) rfl), fun h => absurd h (by decide), fun h => absurd h (by decide)⟩
set_option maxRecDepth 100000 in
theorem xfX1_27 : xFOk xTs xnl KX1.1 27 0 5 2 := ⟨RX1, TX1, 9, tyX1, rfl, by decide, xlayX1, tyX1_ok, nmX1, Or.inl (xT_in 79 (by rfl) rfl), fun h => absurd h (by decide), fun h => absurd h (by decide)⟩
set_option maxRecDepth 100000 in
theorem xfX1_34 : xFOk xTs xnl KX1.1 34 0 6 0 := ⟨RX1, TX1, 9, tyX1, rfl, by decide, xlayX1, tyX1_ok, nmX1, Or.inl (xT_in 81 (by rfl) rfl), fun _ => ⟨rfl, rfl⟩, fun h => absurd h (by decide)⟩
set_option maxRecDepth 100000 in
theorem xfX1_37 : xFOk xTs xnl KX1.1 37 0 7 0 := ⟨RX1, TX1, 9, tyX1, rfl, by decide, xlayX1, tyX1_ok, nmX1, Or.inl (xT_in 84 (by rfl) rfl), fun _ => ⟨rfl, rfl⟩, fun h => absurd h (by decide)⟩
set_option maxRecDepth 100000 in
theorem xfX1_30 : xFOk xTs xnl KX1.1 30 0 8 0 := ⟨RX1, TX1, 9, tyX1, rfl, by decide, xlayX1, tyX1_ok, nmX1, Or.inl (xT_in 88 (by rfl) rfl), fun _ => ⟨rfl, rfl⟩, fun h => absurd h (by decide)⟩
set_option maxRecDepth 100000 in
theorem xlX1_53 : (10 = 0 → Cond.methodLink KX1.1 53 Lib.Math.min.name ∈ xTs ∧ Cond.static Lib.Math.min.name ∈ xTs ∧ Cond.initialized "java/lang/Math" ∈ xTs ∧ Cond.code Lib.Math.min.name Lib.Math.min.code 2 (some .int) ∈ xTs) ∧ (10 ≠ 0 → ∀ M, xnth xMs 10 = some M → Cond.methodLink KX1.1 53 M.1 ∈ xTs) := ⟨fun h => absurd h (by decide), fun _ M h => by
  obtain rfl : M = mX1_has := Option.some.inj (h.symm.trans (by rfl))
  exact xT_in 318 (by rfl) rfl⟩
set_option maxRecDepth 100000 in
theorem xlX1_56 : (18 = 0 → Cond.methodLink KX1.1 56 Lib.Math.min.name ∈ xTs ∧ Cond.static Lib.Math.min.name ∈ xTs ∧ Cond.initialized "java/lang/Math" ∈ xTs ∧ Cond.code Lib.Math.min.name Lib.Math.min.code 2 (some .int) ∈ xTs) ∧ (18 ≠ 0 → ∀ M, xnth xMs 18 = some M → Cond.methodLink KX1.1 56 M.1 ∈ xTs) := ⟨fun h => absurd h (by decide), fun _ M h => by
  obtain rfl : M = mX1_onSlide := Option.some.inj (h.symm.trans (by rfl))
  exact xT_in 319 (by rfl) rfl⟩
set_option maxRecDepth 100000 in
theorem xlX1_59 : (1 = 0 → Cond.methodLink KX1.1 59 Lib.Math.min.name ∈ xTs ∧ Cond.static Lib.Math.min.name ∈ xTs ∧ Cond.initialized "java/lang/Math" ∈ xTs ∧ Cond.code Lib.Math.min.name Lib.Math.min.code 2 (some .int) ∈ xTs) ∧ (1 ≠ 0 → ∀ M, xnth xMs 1 = some M → Cond.methodLink KX1.1 59 M.1 ∈ xTs) := ⟨fun h => absurd h (by decide), fun _ M h => by
  obtain rfl : M = mX0_mirrored := Option.some.inj (h.symm.trans (by rfl))
  exact xT_in 323 (by rfl) rfl⟩
set_option maxRecDepth 100000 in
theorem xlX1_64 : (2 = 0 → Cond.methodLink KX1.1 64 Lib.Math.min.name ∈ xTs ∧ Cond.static Lib.Math.min.name ∈ xTs ∧ Cond.initialized "java/lang/Math" ∈ xTs ∧ Cond.code Lib.Math.min.name Lib.Math.min.code 2 (some .int) ∈ xTs) ∧ (2 ≠ 0 → ∀ M, xnth xMs 2 = some M → Cond.methodLink KX1.1 64 M.1 ∈ xTs) := ⟨fun h => absurd h (by decide), fun _ M h => by
  obtain rfl : M = mX0_flipped := Option.some.inj (h.symm.trans (by rfl))
  exact xT_in 328 (by rfl) rfl⟩
set_option maxRecDepth 100000 in
theorem xlX1_68 : (17 = 0 → Cond.methodLink KX1.1 68 Lib.Math.min.name ∈ xTs ∧ Cond.static Lib.Math.min.name ∈ xTs ∧ Cond.initialized "java/lang/Math" ∈ xTs ∧ Cond.code Lib.Math.min.name Lib.Math.min.code 2 (some .int) ∈ xTs) ∧ (17 ≠ 0 → ∀ M, xnth xMs 17 = some M → Cond.methodLink KX1.1 68 M.1 ∈ xTs) := ⟨fun h => absurd h (by decide), fun _ M h => by
  obtain rfl : M = mX1_cracked := Option.some.inj (h.symm.trans (by rfl))
  exact xT_in 334 (by rfl) rfl⟩
set_option maxRecDepth 100000 in
theorem xlX1_71 : (3 = 0 → Cond.methodLink KX1.1 71 Lib.Math.min.name ∈ xTs ∧ Cond.static Lib.Math.min.name ∈ xTs ∧ Cond.initialized "java/lang/Math" ∈ xTs ∧ Cond.code Lib.Math.min.name Lib.Math.min.code 2 (some .int) ∈ xTs) ∧ (3 ≠ 0 → ∀ M, xnth xMs 3 = some M → Cond.methodLink KX1.1 71 M.1 ∈ xTs) := ⟨fun h => absurd h (by decide), fun _ M h => by
  obtain rfl : M = mX0_shifted := Option.some.inj (h.symm.trans (by rfl))
  exact xT_in 338 (by rfl) rfl⟩
set_option maxRecDepth 100000 in
theorem xlX1_50 : (12 = 0 → Cond.methodLink KX1.1 50 Lib.Math.min.name ∈ xTs ∧ Cond.static Lib.Math.min.name ∈ xTs ∧ Cond.initialized "java/lang/Math" ∈ xTs ∧ Cond.code Lib.Math.min.name Lib.Math.min.code 2 (some .int) ∈ xTs) ∧ (12 ≠ 0 → ∀ M, xnth xMs 12 = some M → Cond.methodLink KX1.1 50 M.1 ∈ xTs) := ⟨fun h => absurd h (by decide), fun _ M h => by
  obtain rfl : M = mX1_hasWanted := Option.some.inj (h.symm.trans (by rfl))
  exact xT_in 355 (by rfl) rfl⟩
set_option maxRecDepth 100000 in
theorem xlX1_40 : (11 = 0 → Cond.methodLink KX1.1 40 Lib.Math.min.name ∈ xTs ∧ Cond.static Lib.Math.min.name ∈ xTs ∧ Cond.initialized "java/lang/Math" ∈ xTs ∧ Cond.code Lib.Math.min.name Lib.Math.min.code 2 (some .int) ∈ xTs) ∧ (11 ≠ 0 → ∀ M, xnth xMs 11 = some M → Cond.methodLink KX1.1 40 M.1 ∈ xTs) := ⟨fun h => absurd h (by decide), fun _ M h => by
  obtain rfl : M = mX1_hasAll := Option.some.inj (h.symm.trans (by rfl))
  exact xT_in 392 (by rfl) rfl⟩
set_option maxRecDepth 100000 in
theorem xlX1_44 : (13 = 0 → Cond.methodLink KX1.1 44 Lib.Math.min.name ∈ xTs ∧ Cond.static Lib.Math.min.name ∈ xTs ∧ Cond.initialized "java/lang/Math" ∈ xTs ∧ Cond.code Lib.Math.min.name Lib.Math.min.code 2 (some .int) ∈ xTs) ∧ (13 ≠ 0 → ∀ M, xnth xMs 13 = some M → Cond.methodLink KX1.1 44 M.1 ∈ xTs) := ⟨fun h => absurd h (by decide), fun _ M h => by
  obtain rfl : M = mJ6_bitCount_0f7a4 := Option.some.inj (h.symm.trans (by rfl))
  exact xT_in 393 (by rfl) rfl⟩
set_option maxRecDepth 100000 in
theorem xlX1_75 : (21 = 0 → Cond.methodLink KX1.1 75 Lib.Math.min.name ∈ xTs ∧ Cond.static Lib.Math.min.name ∈ xTs ∧ Cond.initialized "java/lang/Math" ∈ xTs ∧ Cond.code Lib.Math.min.name Lib.Math.min.code 2 (some .int) ∈ xTs) ∧ (21 ≠ 0 → ∀ M, xnth xMs 21 = some M → Cond.methodLink KX1.1 75 M.1 ∈ xTs) := ⟨fun h => absurd h (by decide), fun _ M h => by
  obtain rfl : M = mX1_laid := Option.some.inj (h.symm.trans (by rfl))
  exact xT_in 403 (by rfl) rfl⟩
set_option maxRecDepth 100000 in
theorem xlX1_78 : (22 = 0 → Cond.methodLink KX1.1 78 Lib.Math.min.name ∈ xTs ∧ Cond.static Lib.Math.min.name ∈ xTs ∧ Cond.initialized "java/lang/Math" ∈ xTs ∧ Cond.code Lib.Math.min.name Lib.Math.min.code 2 (some .int) ∈ xTs) ∧ (22 ≠ 0 → ∀ M, xnth xMs 22 = some M → Cond.methodLink KX1.1 78 M.1 ∈ xTs) := ⟨fun h => absurd h (by decide), fun _ M h => by
  obtain rfl : M = mX1_wear := Option.some.inj (h.symm.trans (by rfl))
  exact xT_in 404 (by rfl) rfl⟩
set_option maxRecDepth 100000 in
theorem xlX1_82 : (0 = 0 → Cond.methodLink KX1.1 82 Lib.Math.min.name ∈ xTs ∧ Cond.static Lib.Math.min.name ∈ xTs ∧ Cond.initialized "java/lang/Math" ∈ xTs ∧ Cond.code Lib.Math.min.name Lib.Math.min.code 2 (some .int) ∈ xTs) ∧ (0 ≠ 0 → ∀ M, xnth xMs 0 = some M → Cond.methodLink KX1.1 82 M.1 ∈ xTs) := ⟨fun _ => ⟨xT_in 408 (by rfl) rfl, xT_in 409 (by rfl) rfl, xT_in 58 (by rfl) rfl, xT_in 410 (by rfl) rfl⟩, fun h => absurd rfl h⟩
set_option maxRecDepth 100000 in
theorem okX1 : xCOk xTs xnl xMs KX1 := ⟨List.forall_mem_cons.mpr ⟨xfX1_9, List.forall_mem_cons.mpr ⟨xfX1_15, List.forall_mem_cons.mpr ⟨xfX1_18, List.forall_mem_cons.mpr ⟨xfX1_21, List.forall_mem_cons.mpr ⟨xfX1_24, List.forall_mem_cons.mpr ⟨xfX1_27, List.forall_mem_cons.mpr ⟨xfX1_34, List.forall_mem_cons.mpr ⟨xfX1_37, List.forall_mem_cons.mpr ⟨xfX1_30, fun _ h => absurd h List.not_mem_nil⟩⟩⟩⟩⟩⟩⟩⟩⟩, List.forall_mem_cons.mpr ⟨xT_in 333 (by rfl) rfl, fun _ h => absurd h List.not_mem_nil⟩, fun _ h => absurd h List.not_mem_nil, List.forall_mem_cons.mpr ⟨xlX1_53, List.forall_mem_cons.mpr ⟨xlX1_56, List.forall_mem_cons.mpr ⟨xlX1_59, List.forall_mem_cons.mpr ⟨xlX1_64, List.forall_mem_cons.mpr ⟨xlX1_68, List.forall_mem_cons.mpr ⟨xlX1_71, List.forall_mem_cons.mpr ⟨xlX1_50, List.forall_mem_cons.mpr ⟨xlX1_40, List.forall_mem_cons.mpr ⟨xlX1_44, List.forall_mem_cons.mpr ⟨xlX1_75, List.forall_mem_cons.mpr ⟨xlX1_78, List.forall_mem_cons.mpr ⟨xlX1_82, fun _ h => absurd h List.not_mem_nil⟩⟩⟩⟩⟩⟩⟩⟩⟩⟩⟩⟩⟩
set_option maxRecDepth 100000 in
theorem xfX2_11 : xFOk xTs xnl KX2.1 11 1 0 2 := ⟨RX2, TX2, 2, tyX2, rfl, by decide, xlayX2, tyX2_ok, nmX2, Or.inl (xT_in 116 (by rfl) rfl), fun h => absurd h (by decide), fun h => absurd h (by decide)⟩
set_option maxRecDepth 100000 in
theorem xfX2_15 : xFOk xTs xnl KX2.1 15 1 1 0 := ⟨RX2, TX2, 2, tyX2, rfl, by decide, xlayX2, tyX2_ok, nmX2, Or.inl (xT_in 117 (by rfl) rfl), fun _ => ⟨rfl, rfl⟩, fun h => absurd h (by decide)⟩
set_option maxRecDepth 100000 in
theorem xlX2_19 : (28 = 0 → Cond.methodLink KX2.1 19 Lib.Math.min.name ∈ xTs ∧ Cond.static Lib.Math.min.name ∈ xTs ∧ Cond.initialized "java/lang/Math" ∈ xTs ∧ Cond.code Lib.Math.min.name Lib.Math.min.code 2 (some .int) ∈ xTs) ∧ (28 ≠ 0 → ∀ M, xnth xMs 28 = some M → Cond.methodLink KX2.1 19 M.1 ∈ xTs) := ⟨fun h => absurd h (by decide), fun _ M h => by
  obtain rfl : M = mX2_isFull := Option.some.inj (h.symm.trans (by rfl))
  exact xT_in 234 (by rfl) rfl⟩
set_option maxRecDepth 100000 in
theorem xlX2_23 : (33 = 0 → Cond.methodLink KX2.1 23 Lib.Math.min.name ∈ xTs ∧ Cond.static Lib.Math.min.name ∈ xTs ∧ Cond.initialized "java/lang/Math" ∈ xTs ∧ Cond.code Lib.Math.min.name Lib.Math.min.code 2 (some .int) ∈ xTs) ∧ (33 ≠ 0 → ∀ M, xnth xMs 33 = some M → Cond.methodLink KX2.1 23 M.1 ∈ xTs) := ⟨fun h => absurd h (by decide), fun _ M h => by
  obtain rfl : M = mX2_stateBehind := Option.some.inj (h.symm.trans (by rfl))
  exact xT_in 243 (by rfl) rfl⟩
set_option maxRecDepth 100000 in
theorem xlX2_27 : (31 = 0 → Cond.methodLink KX2.1 27 Lib.Math.min.name ∈ xTs ∧ Cond.static Lib.Math.min.name ∈ xTs ∧ Cond.initialized "java/lang/Math" ∈ xTs ∧ Cond.code Lib.Math.min.name Lib.Math.min.code 2 (some .int) ∈ xTs) ∧ (31 ≠ 0 → ∀ M, xnth xMs 31 = some M → Cond.methodLink KX2.1 27 M.1 ∈ xTs) := ⟨fun h => absurd h (by decide), fun _ M h => by
  obtain rfl : M = mX2_stateOpened := Option.some.inj (h.symm.trans (by rfl))
  exact xT_in 246 (by rfl) rfl⟩
set_option maxRecDepth 100000 in
theorem xlX2_31 : (32 = 0 → Cond.methodLink KX2.1 31 Lib.Math.min.name ∈ xTs ∧ Cond.static Lib.Math.min.name ∈ xTs ∧ Cond.initialized "java/lang/Math" ∈ xTs ∧ Cond.code Lib.Math.min.name Lib.Math.min.code 2 (some .int) ∈ xTs) ∧ (32 ≠ 0 → ∀ M, xnth xMs 32 = some M → Cond.methodLink KX2.1 31 M.1 ∈ xTs) := ⟨fun h => absurd h (by decide), fun _ M h => by
  obtain rfl : M = mX2_isDigit := Option.some.inj (h.symm.trans (by rfl))
  exact xT_in 249 (by rfl) rfl⟩
set_option maxRecDepth 100000 in
theorem xlX2_35 : (39 = 0 → Cond.methodLink KX2.1 35 Lib.Math.min.name ∈ xTs ∧ Cond.static Lib.Math.min.name ∈ xTs ∧ Cond.initialized "java/lang/Math" ∈ xTs ∧ Cond.code Lib.Math.min.name Lib.Math.min.code 2 (some .int) ∈ xTs) ∧ (39 ≠ 0 → ∀ M, xnth xMs 39 = some M → Cond.methodLink KX2.1 35 M.1 ∈ xTs) := ⟨fun h => absurd h (by decide), fun _ M h => by
  obtain rfl : M = mX2_statementComes := Option.some.inj (h.symm.trans (by rfl))
  exact xT_in 260 (by rfl) rfl⟩
set_option maxRecDepth 100000 in
theorem xlX2_39 : (35 = 0 → Cond.methodLink KX2.1 39 Lib.Math.min.name ∈ xTs ∧ Cond.static Lib.Math.min.name ∈ xTs ∧ Cond.initialized "java/lang/Math" ∈ xTs ∧ Cond.code Lib.Math.min.name Lib.Math.min.code 2 (some .int) ∈ xTs) ∧ (35 ≠ 0 → ∀ M, xnth xMs 35 = some M → Cond.methodLink KX2.1 39 M.1 ∈ xTs) := ⟨fun h => absurd h (by decide), fun _ M h => by
  obtain rfl : M = mX2_signAt := Option.some.inj (h.symm.trans (by rfl))
  exact xT_in 264 (by rfl) rfl⟩
set_option maxRecDepth 100000 in
theorem xlX2_42 : (37 = 0 → Cond.methodLink KX2.1 42 Lib.Math.min.name ∈ xTs ∧ Cond.static Lib.Math.min.name ∈ xTs ∧ Cond.initialized "java/lang/Math" ∈ xTs ∧ Cond.code Lib.Math.min.name Lib.Math.min.code 2 (some .int) ∈ xTs) ∧ (37 ≠ 0 → ∀ M, xnth xMs 37 = some M → Cond.methodLink KX2.1 42 M.1 ∈ xTs) := ⟨fun h => absurd h (by decide), fun _ M h => by
  obtain rfl : M = mX2_number := Option.some.inj (h.symm.trans (by rfl))
  exact xT_in 268 (by rfl) rfl⟩
set_option maxRecDepth 100000 in
theorem xlX2_45 : (36 = 0 → Cond.methodLink KX2.1 45 Lib.Math.min.name ∈ xTs ∧ Cond.static Lib.Math.min.name ∈ xTs ∧ Cond.initialized "java/lang/Math" ∈ xTs ∧ Cond.code Lib.Math.min.name Lib.Math.min.code 2 (some .int) ∈ xTs) ∧ (36 ≠ 0 → ∀ M, xnth xMs 36 = some M → Cond.methodLink KX2.1 45 M.1 ∈ xTs) := ⟨fun h => absurd h (by decide), fun _ M h => by
  obtain rfl : M = mX2_digit := Option.some.inj (h.symm.trans (by rfl))
  exact xT_in 272 (by rfl) rfl⟩
set_option maxRecDepth 100000 in
theorem xlX2_48 : (38 = 0 → Cond.methodLink KX2.1 48 Lib.Math.min.name ∈ xTs ∧ Cond.static Lib.Math.min.name ∈ xTs ∧ Cond.initialized "java/lang/Math" ∈ xTs ∧ Cond.code Lib.Math.min.name Lib.Math.min.code 2 (some .int) ∈ xTs) ∧ (38 ≠ 0 → ∀ M, xnth xMs 38 = some M → Cond.methodLink KX2.1 48 M.1 ∈ xTs) := ⟨fun h => absurd h (by decide), fun _ M h => by
  obtain rfl : M = mX2_pictureBefore := Option.some.inj (h.symm.trans (by rfl))
  exact xT_in 276 (by rfl) rfl⟩
set_option maxRecDepth 100000 in
theorem xlX2_51 : (7 = 0 → Cond.methodLink KX2.1 51 Lib.Math.min.name ∈ xTs ∧ Cond.static Lib.Math.min.name ∈ xTs ∧ Cond.initialized "java/lang/Math" ∈ xTs ∧ Cond.code Lib.Math.min.name Lib.Math.min.code 2 (some .int) ∈ xTs) ∧ (7 ≠ 0 → ∀ M, xnth xMs 7 = some M → Cond.methodLink KX2.1 51 M.1 ∈ xTs) := ⟨fun h => absurd h (by decide), fun _ M h => by
  obtain rfl : M = mX1_addsSlide := Option.some.inj (h.symm.trans (by rfl))
  exact xT_in 280 (by rfl) rfl⟩
set_option maxRecDepth 100000 in
theorem xlX2_57 : (8 = 0 → Cond.methodLink KX2.1 57 Lib.Math.min.name ∈ xTs ∧ Cond.static Lib.Math.min.name ∈ xTs ∧ Cond.initialized "java/lang/Math" ∈ xTs ∧ Cond.code Lib.Math.min.name Lib.Math.min.code 2 (some .int) ∈ xTs) ∧ (8 ≠ 0 → ∀ M, xnth xMs 8 = some M → Cond.methodLink KX2.1 57 M.1 ∈ xTs) := ⟨fun h => absurd h (by decide), fun _ M h => by
  obtain rfl : M = mX1_addsWanted := Option.some.inj (h.symm.trans (by rfl))
  exact xT_in 284 (by rfl) rfl⟩
set_option maxRecDepth 100000 in
theorem xlX2_60 : (9 = 0 → Cond.methodLink KX2.1 60 Lib.Math.min.name ∈ xTs ∧ Cond.static Lib.Math.min.name ∈ xTs ∧ Cond.initialized "java/lang/Math" ∈ xTs ∧ Cond.code Lib.Math.min.name Lib.Math.min.code 2 (some .int) ∈ xTs) ∧ (9 ≠ 0 → ∀ M, xnth xMs 9 = some M → Cond.methodLink KX2.1 60 M.1 ∈ xTs) := ⟨fun h => absurd h (by decide), fun _ M h => by
  obtain rfl : M = mX1_heats := Option.some.inj (h.symm.trans (by rfl))
  exact xT_in 288 (by rfl) rfl⟩
set_option maxRecDepth 100000 in
theorem okX2 : xCOk xTs xnl xMs KX2 := ⟨List.forall_mem_cons.mpr ⟨xfX2_11, List.forall_mem_cons.mpr ⟨xfX2_15, fun _ h => absurd h List.not_mem_nil⟩⟩, fun _ h => absurd h List.not_mem_nil, fun _ h => absurd h List.not_mem_nil, List.forall_mem_cons.mpr ⟨xlX2_19, List.forall_mem_cons.mpr ⟨xlX2_23, List.forall_mem_cons.mpr ⟨xlX2_27, List.forall_mem_cons.mpr ⟨xlX2_31, List.forall_mem_cons.mpr ⟨xlX2_35, List.forall_mem_cons.mpr ⟨xlX2_39, List.forall_mem_cons.mpr ⟨xlX2_42, List.forall_mem_cons.mpr ⟨xlX2_45, List.forall_mem_cons.mpr ⟨xlX2_48, List.forall_mem_cons.mpr ⟨xlX2_51, List.forall_mem_cons.mpr ⟨xlX2_57, List.forall_mem_cons.mpr ⟨xlX2_60, fun _ h => absurd h List.not_mem_nil⟩⟩⟩⟩⟩⟩⟩⟩⟩⟩⟩⟩⟩
set_option maxRecDepth 100000 in
theorem xfX3_96 : xFOk xTs xnl KX3.1 96 0 3 2 := ⟨RX1, TX1, 9, tyX1, rfl, by decide, xlayX1, tyX1_ok, nmX1, Or.inr ⟨_, List.mem_of_getElem? (i := 0) (by rfl)⟩, fun h => absurd h (by decide), fun h => absurd h (by decide)⟩
set_option maxRecDepth 100000 in
theorem xfX3_73 : xFOk xTs xnl KX3.1 73 0 6 0 := ⟨RX1, TX1, 9, tyX1, rfl, by decide, xlayX1, tyX1_ok, nmX1, Or.inr ⟨_, List.mem_of_getElem? (i := 2) (by rfl)⟩, fun _ => ⟨rfl, rfl⟩, fun h => absurd h (by decide)⟩
set_option maxRecDepth 100000 in
theorem xfX3_57 : xFOk xTs xnl KX3.1 57 0 7 0 := ⟨RX1, TX1, 9, tyX1, rfl, by decide, xlayX1, tyX1_ok, nmX1, Or.inr ⟨_, List.mem_of_getElem? (i := 5) (by rfl)⟩, fun _ => ⟨rfl, rfl⟩, fun h => absurd h (by decide)⟩
set_option maxRecDepth 100000 in
theorem xfX3_9 : xFOk xTs xnl KX3.1 9 2 0 2 := ⟨RX3, TX3, 11, tyX3, rfl, by decide, xlayX3, tyX3_ok, nmX3, Or.inl (xT_in 130 (by rfl) rfl), fun h => absurd h (by decide), fun h => absurd h (by decide)⟩
set_option maxRecDepth 100000 in
theorem xfX3_15 : xFOk xTs xnl KX3.1 15 2 1 2 := ⟨RX3, TX3, 11, tyX3, rfl, by decide, xlayX3, tyX3_ok, nmX3, Or.inl (xT_in 131 (by rfl) rfl), fun h => absurd h (by decide), fun h => absurd h (by decide)⟩
set_option maxRecDepth 100000 in
theorem xfX3_18 : xFOk xTs xnl KX3.1 18 2 2 2 := ⟨RX3, TX3, 11, tyX3, rfl, by decide, xlayX3, tyX3_ok, nmX3, Or.inl (xT_in 132 (by rfl) rfl), fun h => absurd h (by decide), fun h => absurd h (by decide)⟩
set_option maxRecDepth 100000 in
theorem xfX3_21 : xFOk xTs xnl KX3.1 21 2 3 2 := ⟨RX3, TX3, 11, tyX3, rfl, by decide, xlayX3, tyX3_ok, nmX3, Or.inl (xT_in 133 (by rfl) rfl), fun h => absurd h (by decide), fun h => absurd h (by decide)⟩
set_option maxRecDepth 100000 in
theorem xfX3_82 : xFOk xTs xnl KX3.1 82 2 4 0 := ⟨RX3, TX3, 11, tyX3, rfl, by decide, xlayX3, tyX3_ok, nmX3, Or.inl (xT_in 134 (by rfl) rfl), fun _ => ⟨rfl, rfl⟩, fun h => absurd h (by decide)⟩
set_option maxRecDepth 100000 in
theorem xfX3_70 : xFOk xTs xnl KX3.1 70 2 5 0 := ⟨RX3, TX3, 11, tyX3, rfl, by decide, xlayX3, tyX3_ok, nmX3, Or.inl (xT_in 135 (by rfl) rfl), fun _ => ⟨rfl, rfl⟩, fun h => absurd h (by decide)⟩
set_option maxRecDepth 100000 in
theorem xfX3_45 : xFOk xTs xnl KX3.1 45 2 6 0 := ⟨RX3, TX3, 11, tyX3, rfl, by decide, xlayX3, tyX3_ok, nmX3, Or.inl (xT_in 136 (by rfl) rfl), fun _ => ⟨rfl, rfl⟩, fun h => absurd h (by decide)⟩
set_option maxRecDepth 100000 in
theorem xfX3_28 : xFOk xTs xnl KX3.1 28 2 7 0 := ⟨RX3, TX3, 11, tyX3, rfl, by decide, xlayX3, tyX3_ok, nmX3, Or.inl (xT_in 137 (by rfl) rfl), fun _ => ⟨rfl, rfl⟩, fun h => absurd h (by decide)⟩
set_option maxRecDepth 100000 in
theorem xfX3_32 : xFOk xTs xnl KX3.1 32 2 8 0 := ⟨RX3, TX3, 11, tyX3, rfl, by decide, xlayX3, tyX3_ok, nmX3, Or.inl (xT_in 139 (by rfl) rfl), fun _ => ⟨rfl, rfl⟩, fun h => absurd h (by decide)⟩
set_option maxRecDepth 100000 in
theorem xfX3_35 : xFOk xTs xnl KX3.1 35 2 9 0 := ⟨RX3, TX3, 11, tyX3, rfl, by decide, xlayX3, tyX3_ok, nmX3, Or.inl (xT_in 141 (by rfl) rfl), fun _ => ⟨rfl, rfl⟩, fun h => absurd h (by decide)⟩
set_option maxRecDepth 100000 in
theorem xfX3_38 : xFOk xTs xnl KX3.1 38 2 10 0 := ⟨RX3, TX3, 11, tyX3, rfl, by decide, xlayX3, tyX3_ok, nmX3, Or.inl (xT_in 143 (by rfl) rfl), fun _ => ⟨rfl, rfl⟩, fun h => absurd h (by decide)⟩
set_option maxRecDepth 100000 in
theorem xlX3_24 : (43 = 0 → Cond.methodLink KX3.1 24 Lib.Math.min.name ∈ xTs ∧ Cond.static Lib.Math.min.name ∈ xTs ∧ Cond.initialized "java/lang/Math" ∈ xTs ∧ Cond.code Lib.Math.min.name Lib.Math.min.code 2 (some .int) ∈ xTs) ∧ (43 ≠ 0 → ∀ M, xnth xMs 43 = some M → Cond.methodLink KX3.1 24 M.1 ∈ xTs) := ⟨fun h => absurd h (by decide), fun _ M h => by
  obtain rfl : M = mX3_load := Option.some.inj (h.symm.trans (by rfl))
  exact xT_in 442 (by rfl) rfl⟩
set_option maxRecDepth 100000 in
theorem xlX3_76 : (0 = 0 → Cond.methodLink KX3.1 76 Lib.Math.min.name ∈ xTs ∧ Cond.static Lib.Math.min.name ∈ xTs ∧ Cond.initialized "java/lang/Math" ∈ xTs ∧ Cond.code Lib.Math.min.name Lib.Math.min.code 2 (some .int) ∈ xTs) ∧ (0 ≠ 0 → ∀ M, xnth xMs 0 = some M → Cond.methodLink KX3.1 76 M.1 ∈ xTs) := ⟨fun _ => ⟨xT_in 446 (by rfl) rfl, xT_in 409 (by rfl) rfl, xT_in 58 (by rfl) rfl, xT_in 410 (by rfl) rfl⟩, fun h => absurd rfl h⟩
set_option maxRecDepth 100000 in
theorem xlX3_85 : (18 = 0 → Cond.methodLink KX3.1 85 Lib.Math.min.name ∈ xTs ∧ Cond.static Lib.Math.min.name ∈ xTs ∧ Cond.initialized "java/lang/Math" ∈ xTs ∧ Cond.code Lib.Math.min.name Lib.Math.min.code 2 (some .int) ∈ xTs) ∧ (18 ≠ 0 → ∀ M, xnth xMs 18 = some M → Cond.methodLink KX3.1 85 M.1 ∈ xTs) := ⟨fun h => absurd h (by decide), fun _ M h => by
  obtain rfl : M = mX1_onSlide := Option.some.inj (h.symm.trans (by rfl))
  exact xT_in 447 (by rfl) rfl⟩
set_option maxRecDepth 100000 in
theorem xlX3_88 : (41 = 0 → Cond.methodLink KX3.1 88 Lib.Math.min.name ∈ xTs ∧ Cond.static Lib.Math.min.name ∈ xTs ∧ Cond.initialized "java/lang/Math" ∈ xTs ∧ Cond.code Lib.Math.min.name Lib.Math.min.code 2 (some .int) ∈ xTs) ∧ (41 ≠ 0 → ∀ M, xnth xMs 41 = some M → Cond.methodLink KX3.1 88 M.1 ∈ xTs) := ⟨fun h => absurd h (by decide), fun _ M h => by
  obtain rfl : M = mX3_usable := Option.some.inj (h.symm.trans (by rfl))
  exact xT_in 448 (by rfl) rfl⟩
set_option maxRecDepth 100000 in
theorem xlX3_91 : (1 = 0 → Cond.methodLink KX3.1 91 Lib.Math.min.name ∈ xTs ∧ Cond.static Lib.Math.min.name ∈ xTs ∧ Cond.initialized "java/lang/Math" ∈ xTs ∧ Cond.code Lib.Math.min.name Lib.Math.min.code 2 (some .int) ∈ xTs) ∧ (1 ≠ 0 → ∀ M, xnth xMs 1 = some M → Cond.methodLink KX3.1 91 M.1 ∈ xTs) := ⟨fun h => absurd h (by decide), fun _ M h => by
  obtain rfl : M = mX0_mirrored := Option.some.inj (h.symm.trans (by rfl))
  exact xT_in 451 (by rfl) rfl⟩
set_option maxRecDepth 100000 in
theorem xlX3_99 : (42 = 0 → Cond.methodLink KX3.1 99 Lib.Math.min.name ∈ xTs ∧ Cond.static Lib.Math.min.name ∈ xTs ∧ Cond.initialized "java/lang/Math" ∈ xTs ∧ Cond.code Lib.Math.min.name Lib.Math.min.code 2 (some .int) ∈ xTs) ∧ (42 ≠ 0 → ∀ M, xnth xMs 42 = some M → Cond.methodLink KX3.1 99 M.1 ∈ xTs) := ⟨fun h => absurd h (by decide), fun _ M h => by
  obtain rfl : M = mX3_dark := Option.some.inj (h.symm.trans (by rfl))
  exact xT_in 452 (by rfl) rfl⟩
set_option maxRecDepth 100000 in
theorem xlX3_41 : (46 = 0 → Cond.methodLink KX3.1 41 Lib.Math.min.name ∈ xTs ∧ Cond.static Lib.Math.min.name ∈ xTs ∧ Cond.initialized "java/lang/Math" ∈ xTs ∧ Cond.code Lib.Math.min.name Lib.Math.min.code 2 (some .int) ∈ xTs) ∧ (46 ≠ 0 → ∀ M, xnth xMs 46 = some M → Cond.methodLink KX3.1 41 M.1 ∈ xTs) := ⟨fun h => absurd h (by decide), fun _ M h => by
  obtain rfl : M = mX3_seekFewest := Option.some.inj (h.symm.trans (by rfl))
  exact xT_in 455 (by rfl) rfl⟩
set_option maxRecDepth 100000 in
theorem xlX3_102 : (44 = 0 → Cond.methodLink KX3.1 102 Lib.Math.min.name ∈ xTs ∧ Cond.static Lib.Math.min.name ∈ xTs ∧ Cond.initialized "java/lang/Math" ∈ xTs ∧ Cond.code Lib.Math.min.name Lib.Math.min.code 2 (some .int) ∈ xTs) ∧ (44 ≠ 0 → ∀ M, xnth xMs 44 = some M → Cond.methodLink KX3.1 102 M.1 ∈ xTs) := ⟨fun h => absurd h (by decide), fun _ M h => by
  obtain rfl : M = mX3_isOutOfReach := Option.some.inj (h.symm.trans (by rfl))
  exact xT_in 459 (by rfl) rfl⟩
set_option maxRecDepth 100000 in
theorem xlX3_105 : (13 = 0 → Cond.methodLink KX3.1 105 Lib.Math.min.name ∈ xTs ∧ Cond.static Lib.Math.min.name ∈ xTs ∧ Cond.initialized "java/lang/Math" ∈ xTs ∧ Cond.code Lib.Math.min.name Lib.Math.min.code 2 (some .int) ∈ xTs) ∧ (13 ≠ 0 → ∀ M, xnth xMs 13 = some M → Cond.methodLink KX3.1 105 M.1 ∈ xTs) := ⟨fun h => absurd h (by decide), fun _ M h => by
  obtain rfl : M = mJ6_bitCount_0f7a4 := Option.some.inj (h.symm.trans (by rfl))
  exact xT_in 463 (by rfl) rfl⟩
set_option maxRecDepth 100000 in
theorem xlX3_110 : (45 = 0 → Cond.methodLink KX3.1 110 Lib.Math.min.name ∈ xTs ∧ Cond.static Lib.Math.min.name ∈ xTs ∧ Cond.initialized "java/lang/Math" ∈ xTs ∧ Cond.code Lib.Math.min.name Lib.Math.min.code 2 (some .int) ∈ xTs) ∧ (45 ≠ 0 → ∀ M, xnth xMs 45 = some M → Cond.methodLink KX3.1 110 M.1 ∈ xTs) := ⟨fun h => absurd h (by decide), fun _ M h => by
  obtain rfl : M = mX3_noteFewest := Option.some.inj (h.symm.trans (by rfl))
  exact xT_in 464 (by rfl) rfl⟩
set_option maxRecDepth 100000 in
theorem xlX3_48 : (48 = 0 → Cond.methodLink KX3.1 48 Lib.Math.min.name ∈ xTs ∧ Cond.static Lib.Math.min.name ∈ xTs ∧ Cond.initialized "java/lang/Math" ∈ xTs ∧ Cond.code Lib.Math.min.name Lib.Math.min.code 2 (some .int) ∈ xTs) ∧ (48 ≠ 0 → ∀ M, xnth xMs 48 = some M → Cond.methodLink KX3.1 48 M.1 ∈ xTs) := ⟨fun h => absurd h (by decide), fun _ M h => by
  obtain rfl : M = mX3_seekCheapest := Option.some.inj (h.symm.trans (by rfl))
  exact xT_in 476 (by rfl) rfl⟩
set_option maxRecDepth 100000 in
theorem xlX3_53 : (50 = 0 → Cond.methodLink KX3.1 53 Lib.Math.min.name ∈ xTs ∧ Cond.static Lib.Math.min.name ∈ xTs ∧ Cond.initialized "java/lang/Math" ∈ xTs ∧ Cond.code Lib.Math.min.name Lib.Math.min.code 2 (some .int) ∈ xTs) ∧ (50 ≠ 0 → ∀ M, xnth xMs 50 = some M → Cond.methodLink KX3.1 53 M.1 ∈ xTs) := ⟨fun h => absurd h (by decide), fun _ M h => by
  obtain rfl : M = mX3_seekNear := Option.some.inj (h.symm.trans (by rfl))
  exact xT_in 489 (by rfl) rfl⟩
set_option maxRecDepth 100000 in
theorem xlX3_62 : (16 = 0 → Cond.methodLink KX3.1 62 Lib.Math.min.name ∈ xTs ∧ Cond.static Lib.Math.min.name ∈ xTs ∧ Cond.initialized "java/lang/Math" ∈ xTs ∧ Cond.code Lib.Math.min.name Lib.Math.min.code 2 (some .int) ∈ xTs) ∧ (16 ≠ 0 → ∀ M, xnth xMs 16 = some M → Cond.methodLink KX3.1 62 M.1 ∈ xTs) := ⟨fun h => absurd h (by decide), fun _ M h => by
  obtain rfl : M = mX1_wantedPicture := Option.some.inj (h.symm.trans (by rfl))
  exact xT_in 501 (by rfl) rfl⟩
set_option maxRecDepth 100000 in
theorem xlX3_66 : (52 = 0 → Cond.methodLink KX3.1 66 Lib.Math.min.name ∈ xTs ∧ Cond.static Lib.Math.min.name ∈ xTs ∧ Cond.initialized "java/lang/Math" ∈ xTs ∧ Cond.code Lib.Math.min.name Lib.Math.min.code 2 (some .int) ∈ xTs) ∧ (52 ≠ 0 → ∀ M, xnth xMs 52 = some M → Cond.methodLink KX3.1 66 M.1 ∈ xTs) := ⟨fun h => absurd h (by decide), fun _ M h => by
  obtain rfl : M = mX3_isShown := Option.some.inj (h.symm.trans (by rfl))
  exact xT_in 502 (by rfl) rfl⟩
set_option maxRecDepth 100000 in
theorem okX3 : xCOk xTs xnl xMs KX3 := ⟨List.forall_mem_cons.mpr ⟨xfX3_96, List.forall_mem_cons.mpr ⟨xfX3_73, List.forall_mem_cons.mpr ⟨xfX3_57, List.forall_mem_cons.mpr ⟨xfX3_9, List.forall_mem_cons.mpr ⟨xfX3_15, List.forall_mem_cons.mpr ⟨xfX3_18, List.forall_mem_cons.mpr ⟨xfX3_21, List.forall_mem_cons.mpr ⟨xfX3_82, List.forall_mem_cons.mpr ⟨xfX3_70, List.forall_mem_cons.mpr ⟨xfX3_45, List.forall_mem_cons.mpr ⟨xfX3_28, List.forall_mem_cons.mpr ⟨xfX3_32, List.forall_mem_cons.mpr ⟨xfX3_35, List.forall_mem_cons.mpr ⟨xfX3_38, fun _ h => absurd h List.not_mem_nil⟩⟩⟩⟩⟩⟩⟩⟩⟩⟩⟩⟩⟩⟩, List.forall_mem_cons.mpr ⟨xT_in 488 (by rfl) rfl, fun _ h => absurd h List.not_mem_nil⟩, fun _ h => absurd h List.not_mem_nil, List.forall_mem_cons.mpr ⟨xlX3_24, List.forall_mem_cons.mpr ⟨xlX3_76, List.forall_mem_cons.mpr ⟨xlX3_85, List.forall_mem_cons.mpr ⟨xlX3_88, List.forall_mem_cons.mpr ⟨xlX3_91, List.forall_mem_cons.mpr ⟨xlX3_99, List.forall_mem_cons.mpr ⟨xlX3_41, List.forall_mem_cons.mpr ⟨xlX3_102, List.forall_mem_cons.mpr ⟨xlX3_105, List.forall_mem_cons.mpr ⟨xlX3_110, List.forall_mem_cons.mpr ⟨xlX3_48, List.forall_mem_cons.mpr ⟨xlX3_53, List.forall_mem_cons.mpr ⟨xlX3_62, List.forall_mem_cons.mpr ⟨xlX3_66, fun _ h => absurd h List.not_mem_nil⟩⟩⟩⟩⟩⟩⟩⟩⟩⟩⟩⟩⟩⟩⟩
set_option maxRecDepth 100000 in
theorem xfX4_21 : xFOk xTs xnl KX4.1 21 0 6 0 := ⟨RX1, TX1, 9, tyX1, rfl, by decide, xlayX1, tyX1_ok, nmX1, Or.inr ⟨_, List.mem_of_getElem? (i := 1) (by rfl)⟩, fun _ => ⟨rfl, rfl⟩, fun h => absurd h (by decide)⟩
set_option maxRecDepth 100000 in
theorem xfX4_61 : xFOk xTs xnl KX4.1 61 0 7 0 := ⟨RX1, TX1, 9, tyX1, rfl, by decide, xlayX1, tyX1_ok, nmX1, Or.inr ⟨_, List.mem_of_getElem? (i := 4) (by rfl)⟩, fun _ => ⟨rfl, rfl⟩, fun h => absurd h (by decide)⟩
set_option maxRecDepth 100000 in
theorem xfX4_11 : xFOk xTs xnl KX4.1 11 3 0 2 := ⟨RX4, TX4, 3, tyX4, rfl, by decide, xlayX4, tyX4_ok, nmX4, Or.inl (xT_in 174 (by rfl) rfl), fun h => absurd h (by decide), fun h => absurd h (by decide)⟩
set_option maxRecDepth 100000 in
theorem xfX4_15 : xFOk xTs xnl KX4.1 15 3 1 2 := ⟨RX4, TX4, 3, tyX4, rfl, by decide, xlayX4, tyX4_ok, nmX4, Or.inl (xT_in 175 (by rfl) rfl), fun h => absurd h (by decide), fun h => absurd h (by decide)⟩
set_option maxRecDepth 100000 in
theorem xfX4_18 : xFOk xTs xnl KX4.1 18 3 2 2 := ⟨RX4, TX4, 3, tyX4, rfl, by decide, xlayX4, tyX4_ok, nmX4, Or.inl (xT_in 176 (by rfl) rfl), fun h => absurd h (by decide), fun h => absurd h (by decide)⟩
set_option maxRecDepth 100000 in
theorem xlX4_27 : (0 = 0 → Cond.methodLink KX4.1 27 Lib.Math.min.name ∈ xTs ∧ Cond.static Lib.Math.min.name ∈ xTs ∧ Cond.initialized "java/lang/Math" ∈ xTs ∧ Cond.code Lib.Math.min.name Lib.Math.min.code 2 (some .int) ∈ xTs) ∧ (0 ≠ 0 → ∀ M, xnth xMs 0 = some M → Cond.methodLink KX4.1 27 M.1 ∈ xTs) := ⟨fun _ => ⟨xT_in 538 (by rfl) rfl, xT_in 409 (by rfl) rfl, xT_in 58 (by rfl) rfl, xT_in 410 (by rfl) rfl⟩, fun h => absurd rfl h⟩
set_option maxRecDepth 100000 in
theorem xlX4_33 : (54 = 0 → Cond.methodLink KX4.1 33 Lib.Math.min.name ∈ xTs ∧ Cond.static Lib.Math.min.name ∈ xTs ∧ Cond.initialized "java/lang/Math" ∈ xTs ∧ Cond.code Lib.Math.min.name Lib.Math.min.code 2 (some .int) ∈ xTs) ∧ (54 ≠ 0 → ∀ M, xnth xMs 54 = some M → Cond.methodLink KX4.1 33 M.1 ∈ xTs) := ⟨fun h => absurd h (by decide), fun _ M h => by
  obtain rfl : M = mX4_layAll := Option.some.inj (h.symm.trans (by rfl))
  exact xT_in 539 (by rfl) rfl⟩
set_option maxRecDepth 100000 in
theorem xlX4_58 : (18 = 0 → Cond.methodLink KX4.1 58 Lib.Math.min.name ∈ xTs ∧ Cond.static Lib.Math.min.name ∈ xTs ∧ Cond.initialized "java/lang/Math" ∈ xTs ∧ Cond.code Lib.Math.min.name Lib.Math.min.code 2 (some .int) ∈ xTs) ∧ (18 ≠ 0 → ∀ M, xnth xMs 18 = some M → Cond.methodLink KX4.1 58 M.1 ∈ xTs) := ⟨fun h => absurd h (by decide), fun _ M h => by
  obtain rfl : M = mX1_onSlide := Option.some.inj (h.symm.trans (by rfl))
  exact xT_in 543 (by rfl) rfl⟩
set_option maxRecDepth 100000 in
theorem xlX4_37 : (56 = 0 → Cond.methodLink KX4.1 37 Lib.Math.min.name ∈ xTs ∧ Cond.static Lib.Math.min.name ∈ xTs ∧ Cond.initialized "java/lang/Math" ∈ xTs ∧ Cond.code Lib.Math.min.name Lib.Math.min.code 2 (some .int) ∈ xTs) ∧ (56 ≠ 0 → ∀ M, xnth xMs 56 = some M → Cond.methodLink KX4.1 37 M.1 ∈ xTs) := ⟨fun h => absurd h (by decide), fun _ M h => by
  obtain rfl : M = mX4_findStops := Option.some.inj (h.symm.trans (by rfl))
  exact xT_in 544 (by rfl) rfl⟩
set_option maxRecDepth 100000 in
theorem xlX4_64 : (16 = 0 → Cond.methodLink KX4.1 64 Lib.Math.min.name ∈ xTs ∧ Cond.static Lib.Math.min.name ∈ xTs ∧ Cond.initialized "java/lang/Math" ∈ xTs ∧ Cond.code Lib.Math.min.name Lib.Math.min.code 2 (some .int) ∈ xTs) ∧ (16 ≠ 0 → ∀ M, xnth xMs 16 = some M → Cond.methodLink KX4.1 64 M.1 ∈ xTs) := ⟨fun h => absurd h (by decide), fun _ M h => by
  obtain rfl : M = mX1_wantedPicture := Option.some.inj (h.symm.trans (by rfl))
  exact xT_in 548 (by rfl) rfl⟩
set_option maxRecDepth 100000 in
theorem xlX4_67 : (55 = 0 → Cond.methodLink KX4.1 67 Lib.Math.min.name ∈ xTs ∧ Cond.static Lib.Math.min.name ∈ xTs ∧ Cond.initialized "java/lang/Math" ∈ xTs ∧ Cond.code Lib.Math.min.name Lib.Math.min.code 2 (some .int) ∈ xTs) ∧ (55 ≠ 0 → ∀ M, xnth xMs 55 = some M → Cond.methodLink KX4.1 67 M.1 ∈ xTs) := ⟨fun h => absurd h (by decide), fun _ M h => by
  obtain rfl : M = mX4_isShownByOne := Option.some.inj (h.symm.trans (by rfl))
  exact xT_in 549 (by rfl) rfl⟩
set_option maxRecDepth 100000 in
theorem xlX4_41 : (13 = 0 → Cond.methodLink KX4.1 41 Lib.Math.min.name ∈ xTs ∧ Cond.static Lib.Math.min.name ∈ xTs ∧ Cond.initialized "java/lang/Math" ∈ xTs ∧ Cond.code Lib.Math.min.name Lib.Math.min.code 2 (some .int) ∈ xTs) ∧ (13 ≠ 0 → ∀ M, xnth xMs 13 = some M → Cond.methodLink KX4.1 41 M.1 ∈ xTs) := ⟨fun h => absurd h (by decide), fun _ M h => by
  obtain rfl : M = mJ6_bitCount_0f7a4 := Option.some.inj (h.symm.trans (by rfl))
  exact xT_in 553 (by rfl) rfl⟩
set_option maxRecDepth 100000 in
theorem xlX4_47 : (57 = 0 → Cond.methodLink KX4.1 47 Lib.Math.min.name ∈ xTs ∧ Cond.static Lib.Math.min.name ∈ xTs ∧ Cond.initialized "java/lang/Math" ∈ xTs ∧ Cond.code Lib.Math.min.name Lib.Math.min.code 2 (some .int) ∈ xTs) ∧ (57 ≠ 0 → ∀ M, xnth xMs 57 = some M → Cond.methodLink KX4.1 47 M.1 ∈ xTs) := ⟨fun h => absurd h (by decide), fun _ M h => by
  obtain rfl : M = mX4_arrive := Option.some.inj (h.symm.trans (by rfl))
  exact xT_in 554 (by rfl) rfl⟩
set_option maxRecDepth 100000 in
theorem xlX4_51 : (58 = 0 → Cond.methodLink KX4.1 51 Lib.Math.min.name ∈ xTs ∧ Cond.static Lib.Math.min.name ∈ xTs ∧ Cond.initialized "java/lang/Math" ∈ xTs ∧ Cond.code Lib.Math.min.name Lib.Math.min.code 2 (some .int) ∈ xTs) ∧ (58 ≠ 0 → ∀ M, xnth xMs 58 = some M → Cond.methodLink KX4.1 51 M.1 ∈ xTs) := ⟨fun h => absurd h (by decide), fun _ M h => by
  obtain rfl : M = mX4_walk := Option.some.inj (h.symm.trans (by rfl))
  exact xT_in 558 (by rfl) rfl⟩
set_option maxRecDepth 100000 in
theorem xlX4_55 : (59 = 0 → Cond.methodLink KX4.1 55 Lib.Math.min.name ∈ xTs ∧ Cond.static Lib.Math.min.name ∈ xTs ∧ Cond.initialized "java/lang/Math" ∈ xTs ∧ Cond.code Lib.Math.min.name Lib.Math.min.code 2 (some .int) ∈ xTs) ∧ (59 ≠ 0 → ∀ M, xnth xMs 59 = some M → Cond.methodLink KX4.1 55 M.1 ∈ xTs) := ⟨fun h => absurd h (by decide), fun _ M h => by
  obtain rfl : M = mX4_leastSteps := Option.some.inj (h.symm.trans (by rfl))
  exact xT_in 562 (by rfl) rfl⟩
set_option maxRecDepth 100000 in
theorem okX4 : xCOk xTs xnl xMs KX4 := ⟨List.forall_mem_cons.mpr ⟨xfX4_21, List.forall_mem_cons.mpr ⟨xfX4_61, List.forall_mem_cons.mpr ⟨xfX4_11, List.forall_mem_cons.mpr ⟨xfX4_15, List.forall_mem_cons.mpr ⟨xfX4_18, fun _ h => absurd h List.not_mem_nil⟩⟩⟩⟩⟩, fun _ h => absurd h List.not_mem_nil, fun _ h => absurd h List.not_mem_nil, List.forall_mem_cons.mpr ⟨xlX4_27, List.forall_mem_cons.mpr ⟨xlX4_33, List.forall_mem_cons.mpr ⟨xlX4_58, List.forall_mem_cons.mpr ⟨xlX4_37, List.forall_mem_cons.mpr ⟨xlX4_64, List.forall_mem_cons.mpr ⟨xlX4_67, List.forall_mem_cons.mpr ⟨xlX4_41, List.forall_mem_cons.mpr ⟨xlX4_47, List.forall_mem_cons.mpr ⟨xlX4_51, List.forall_mem_cons.mpr ⟨xlX4_55, fun _ h => absurd h List.not_mem_nil⟩⟩⟩⟩⟩⟩⟩⟩⟩⟩⟩
set_option maxRecDepth 100000 in
theorem xfX5_183 : xFOk xTs xnl KX5.1 183 0 6 0 := ⟨RX1, TX1, 9, tyX1, rfl, by decide, xlayX1, tyX1_ok, nmX1, Or.inr ⟨_, List.mem_of_getElem? (i := 3) (by rfl)⟩, fun _ => ⟨rfl, rfl⟩, fun h => absurd h (by decide)⟩
set_option maxRecDepth 100000 in
theorem xfX5_196 : xFOk xTs xnl KX5.1 196 0 7 0 := ⟨RX1, TX1, 9, tyX1, rfl, by decide, xlayX1, tyX1_ok, nmX1, Or.inr ⟨_, List.mem_of_getElem? (i := 6) (by rfl)⟩, fun _ => ⟨rfl, rfl⟩, fun h => absurd h (by decide)⟩
set_option maxRecDepth 100000 in
theorem xfX5_100 : xFOk xTs xnl KX5.1 100 0 8 0 := ⟨RX1, TX1, 9, tyX1, rfl, by decide, xlayX1, tyX1_ok, nmX1, Or.inr ⟨_, List.mem_of_getElem? (i := 7) (by rfl)⟩, fun _ => ⟨rfl, rfl⟩, fun h => absurd h (by decide)⟩
set_option maxRecDepth 100000 in
theorem xfX5_205 : xFOk xTs xnl KX5.1 205 1 1 0 := ⟨RX2, TX2, 2, tyX2, rfl, by decide, xlayX2, tyX2_ok, nmX2, Or.inr ⟨_, List.mem_of_getElem? (i := 8) (by rfl)⟩, fun _ => ⟨rfl, rfl⟩, fun h => absurd h (by decide)⟩
set_option maxRecDepth 100000 in
theorem xfX5_140 : xFOk xTs xnl KX5.1 140 2 7 0 := ⟨RX3, TX3, 11, tyX3, rfl, by decide, xlayX3, tyX3_ok, nmX3, Or.inr ⟨_, List.mem_of_getElem? (i := 9) (by rfl)⟩, fun _ => ⟨rfl, rfl⟩, fun h => absurd h (by decide)⟩
set_option maxRecDepth 100000 in
theorem xfX5_143 : xFOk xTs xnl KX5.1 143 2 8 0 := ⟨RX3, TX3, 11, tyX3, rfl, by decide, xlayX3, tyX3_ok, nmX3, Or.inr ⟨_, List.mem_of_getElem? (i := 10) (by rfl)⟩, fun _ => ⟨rfl, rfl⟩, fun h => absurd h (by decide)⟩
set_option maxRecDepth 100000 in
theorem xfX5_146 : xFOk xTs xnl KX5.1 146 2 9 0 := ⟨RX3, TX3, 11, tyX3, rfl, by decide, xlayX3, tyX3_ok, nmX3, Or.inr ⟨_, List.mem_of_getElem? (i := 11) (by rfl)⟩, fun _ => ⟨rfl, rfl⟩, fun h => absurd h (by decide)⟩
set_option maxRecDepth 100000 in
theorem xfX5_149 : xFOk xTs xnl KX5.1 149 2 10 0 := ⟨RX3, TX3, 11, tyX3, rfl, by decide, xlayX3, tyX3_ok, nmX3, Or.inr ⟨_, List.mem_of_getElem? (i := 12) (by rfl)⟩, fun _ => ⟨rfl, rfl⟩, fun h => absurd h (by decide)⟩
set_option maxRecDepth 100000 in
theorem xfX5_10 : xFOk xTs xnl KX5.1 10 4 0 2 := ⟨RX5, TX5, 10, tyX5, rfl, by decide, xlayX5, tyX5_ok, nmX5, Or.inl (xT_in 184 (by rfl) rfl), fun h => absurd h (by decide), fun h => absurd h (by decide)⟩
set_option maxRecDepth 100000 in
theorem xfX5_16 : xFOk xTs xnl KX5.1 16 4 1 2 := ⟨RX5, TX5, 10, tyX5, rfl, by decide, xlayX5, tyX5_ok, nmX5, Or.inl (xT_in 185 (by rfl) rfl), fun h => absurd h (by decide), fun h => absurd h (by decide)⟩
set_option maxRecDepth 100000 in
theorem xfX5_19 : xFOk xTs xnl KX5.1 19 4 2 2 := ⟨RX5, TX5, 10, tyX5, rfl, by decide, xlayX5, tyX5_ok, nmX5, Or.inl (xT_in 186 (by rfl) rfl), fun h => absurd h (by decide), fun h => absurd h (by decide)⟩
set_option maxRecDepth 100000 in
theorem xfX5_192 : xFOk xTs xnl KX5.1 192 4 3 1 := ⟨RX5, TX5, 10, tyX5, rfl, by decide, xlayX5, tyX5_ok, nmX5, Or.inl (xT_in 187 (by rfl) rfl), fun h => absurd h (by decide), fun _ => ⟨rfl, rfl⟩⟩
set_option maxRecDepth 100000 in
theorem xfX5_25 : xFOk xTs xnl KX5.1 25 4 4 2 := ⟨RX5, TX5, 10, tyX5, rfl, by decide, xlayX5, tyX5_ok, nmX5, Or.inl (xT_in 188 (by rfl) rfl), fun h => absurd h (by decide), fun h => absurd h (by decide)⟩
set_option maxRecDepth 100000 in
theorem xfX5_32 : xFOk xTs xnl KX5.1 32 4 5 2 := ⟨RX5, TX5, 10, tyX5, rfl, by decide, xlayX5, tyX5_ok, nmX5, Or.inl (xT_in 189 (by rfl) rfl), fun h => absurd h (by decide), fun h => absurd h (by decide)⟩
set_option maxRecDepth 100000 in
theorem xfX5_39 : xFOk xTs xnl KX5.1 39 4 6 2 := ⟨RX5, TX5, 10, tyX5, rfl, by decide, xlayX5, tyX5_ok, nmX5, Or.inl (xT_in 190 (by rfl) rfl), fun h => absurd h (by decide), fun h => absurd h (by decide)⟩
set_option maxRecDepth 100000 in
theorem xfX5_43 : xFOk xTs xnl KX5.1 43 4 7 2 := ⟨RX5, TX5, 10, tyX5, rfl, by decide, xlayX5, tyX5_ok, nmX5, Or.inl (xT_in 191 (by rfl) rfl), fun h => absurd h (by decide), fun h => absurd h (by decide)⟩
set_option maxRecDepth 100000 in
theorem xfX5_177 : xFOk xTs xnl KX5.1 177 4 8 0 := ⟨RX5, TX5, 10, tyX5, rfl, by decide, xlayX5, tyX5_ok, nmX5, Or.inl (xT_in 192 (by rfl) rfl), fun _ => ⟨rfl, rfl⟩, fun h => absurd h (by decide)⟩
set_option maxRecDepth 100000 in
theorem xfX5_47 : xFOk xTs xnl KX5.1 47 4 9 2 := ⟨RX5, TX5, 10, tyX5, rfl, by decide, xlayX5, tyX5_ok, nmX5, Or.inl (xT_in 193 (by rfl) rfl), fun h => absurd h (by decide), fun h => absurd h (by decide)⟩
set_option maxRecDepth 100000 in
theorem xlX5_50 : (61 = 0 → Cond.methodLink KX5.1 50 Lib.Math.min.name ∈ xTs ∧ Cond.static Lib.Math.min.name ∈ xTs ∧ Cond.initialized "java/lang/Math" ∈ xTs ∧ Cond.code Lib.Math.min.name Lib.Math.min.code 2 (some .int) ∈ xTs) ∧ (61 ≠ 0 → ∀ M, xnth xMs 61 = some M → Cond.methodLink KX5.1 50 M.1 ∈ xTs) := ⟨fun h => absurd h (by decide), fun _ M h => by
  obtain rfl : M = mX5_wrongNumber := Option.some.inj (h.symm.trans (by rfl))
  exact xT_in 219 (by rfl) rfl⟩
set_option maxRecDepth 100000 in
theorem xlX5_54 : (28 = 0 → Cond.methodLink KX5.1 54 Lib.Math.min.name ∈ xTs ∧ Cond.static Lib.Math.min.name ∈ xTs ∧ Cond.initialized "java/lang/Math" ∈ xTs ∧ Cond.code Lib.Math.min.name Lib.Math.min.code 2 (some .int) ∈ xTs) ∧ (28 ≠ 0 → ∀ M, xnth xMs 28 = some M → Cond.methodLink KX5.1 54 M.1 ∈ xTs) := ⟨fun h => absurd h (by decide), fun _ M h => by
  obtain rfl : M = mX2_isFull := Option.some.inj (h.symm.trans (by rfl))
  exact xT_in 222 (by rfl) rfl⟩
set_option maxRecDepth 100000 in
theorem xlX5_58 : (62 = 0 → Cond.methodLink KX5.1 58 Lib.Math.min.name ∈ xTs ∧ Cond.static Lib.Math.min.name ∈ xTs ∧ Cond.initialized "java/lang/Math" ∈ xTs ∧ Cond.code Lib.Math.min.name Lib.Math.min.code 2 (some .int) ∈ xTs) ∧ (62 ≠ 0 → ∀ M, xnth xMs 62 = some M → Cond.methodLink KX5.1 58 M.1 ∈ xTs) := ⟨fun h => absurd h (by decide), fun _ M h => by
  obtain rfl : M = mX5_refused := Option.some.inj (h.symm.trans (by rfl))
  exact xT_in 226 (by rfl) rfl⟩
set_option maxRecDepth 100000 in
theorem xlX5_62 : (29 = 0 → Cond.methodLink KX5.1 62 Lib.Math.min.name ∈ xTs ∧ Cond.static Lib.Math.min.name ∈ xTs ∧ Cond.initialized "java/lang/Math" ∈ xTs ∧ Cond.code Lib.Math.min.name Lib.Math.min.code 2 (some .int) ∈ xTs) ∧ (29 ≠ 0 → ∀ M, xnth xMs 29 = some M → Cond.methodLink KX5.1 62 M.1 ∈ xTs) := ⟨fun h => absurd h (by decide), fun _ M h => by
  obtain rfl : M = mX2_taken := Option.some.inj (h.symm.trans (by rfl))
  exact xT_in 230 (by rfl) rfl⟩
set_option maxRecDepth 100000 in
theorem xlX5_65 : (34 = 0 → Cond.methodLink KX5.1 65 Lib.Math.min.name ∈ xTs ∧ Cond.static Lib.Math.min.name ∈ xTs ∧ Cond.initialized "java/lang/Math" ∈ xTs ∧ Cond.code Lib.Math.min.name Lib.Math.min.code 2 (some .int) ∈ xTs) ∧ (34 ≠ 0 → ∀ M, xnth xMs 34 = some M → Cond.methodLink KX5.1 65 M.1 ∈ xTs) := ⟨fun h => absurd h (by decide), fun _ M h => by
  obtain rfl : M = mX2_fault := Option.some.inj (h.symm.trans (by rfl))
  exact xT_in 239 (by rfl) rfl⟩
set_option maxRecDepth 100000 in
theorem xlX5_69 : (6 = 0 → Cond.methodLink KX5.1 69 Lib.Math.min.name ∈ xTs ∧ Cond.static Lib.Math.min.name ∈ xTs ∧ Cond.initialized "java/lang/Math" ∈ xTs ∧ Cond.code Lib.Math.min.name Lib.Math.min.code 2 (some .int) ∈ xTs) ∧ (6 ≠ 0 → ∀ M, xnth xMs 6 = some M → Cond.methodLink KX5.1 69 M.1 ∈ xTs) := ⟨fun h => absurd h (by decide), fun _ M h => by
  obtain rfl : M = mX1_becomes := Option.some.inj (h.symm.trans (by rfl))
  exact xT_in 252 (by rfl) rfl⟩
set_option maxRecDepth 100000 in
theorem xlX5_73 : (40 = 0 → Cond.methodLink KX5.1 73 Lib.Math.min.name ∈ xTs ∧ Cond.static Lib.Math.min.name ∈ xTs ∧ Cond.initialized "java/lang/Math" ∈ xTs ∧ Cond.code Lib.Math.min.name Lib.Math.min.code 2 (some .int) ∈ xTs) ∧ (40 ≠ 0 → ∀ M, xnth xMs 40 = some M → Cond.methodLink KX5.1 73 M.1 ∈ xTs) := ⟨fun h => absurd h (by decide), fun _ M h => by
  obtain rfl : M = mX2_toldTo := Option.some.inj (h.symm.trans (by rfl))
  exact xT_in 256 (by rfl) rfl⟩
set_option maxRecDepth 100000 in
theorem xlX5_77 : (30 = 0 → Cond.methodLink KX5.1 77 Lib.Math.min.name ∈ xTs ∧ Cond.static Lib.Math.min.name ∈ xTs ∧ Cond.initialized "java/lang/Math" ∈ xTs ∧ Cond.code Lib.Math.min.name Lib.Math.min.code 2 (some .int) ∈ xTs) ∧ (30 ≠ 0 → ∀ M, xnth xMs 30 = some M → Cond.methodLink KX5.1 77 M.1 ∈ xTs) := ⟨fun h => absurd h (by decide), fun _ M h => by
  obtain rfl : M = mX2_forget := Option.some.inj (h.symm.trans (by rfl))
  exact xT_in 292 (by rfl) rfl⟩
set_option maxRecDepth 100000 in
theorem xlX5_80 : (65 = 0 → Cond.methodLink KX5.1 80 Lib.Math.min.name ∈ xTs ∧ Cond.static Lib.Math.min.name ∈ xTs ∧ Cond.initialized "java/lang/Math" ∈ xTs ∧ Cond.code Lib.Math.min.name Lib.Math.min.code 2 (some .int) ∈ xTs) ∧ (65 ≠ 0 → ∀ M, xnth xMs 65 = some M → Cond.methodLink KX5.1 80 M.1 ∈ xTs) := ⟨fun h => absurd h (by decide), fun _ M h => by
  obtain rfl : M = mX5_wrongSlide := Option.some.inj (h.symm.trans (by rfl))
  exact xT_in 300 (by rfl) rfl⟩
set_option maxRecDepth 100000 in
theorem xlX5_159 : (10 = 0 → Cond.methodLink KX5.1 159 Lib.Math.min.name ∈ xTs ∧ Cond.static Lib.Math.min.name ∈ xTs ∧ Cond.initialized "java/lang/Math" ∈ xTs ∧ Cond.code Lib.Math.min.name Lib.Math.min.code 2 (some .int) ∈ xTs) ∧ (10 ≠ 0 → ∀ M, xnth xMs 10 = some M → Cond.methodLink KX5.1 159 M.1 ∈ xTs) := ⟨fun h => absurd h (by decide), fun _ M h => by
  obtain rfl : M = mX1_has := Option.some.inj (h.symm.trans (by rfl))
  exact xT_in 304 (by rfl) rfl⟩
set_option maxRecDepth 100000 in
theorem xlX5_83 : (66 = 0 → Cond.methodLink KX5.1 83 Lib.Math.min.name ∈ xTs ∧ Cond.static Lib.Math.min.name ∈ xTs ∧ Cond.initialized "java/lang/Math" ∈ xTs ∧ Cond.code Lib.Math.min.name Lib.Math.min.code 2 (some .int) ∈ xTs) ∧ (66 ≠ 0 → ∀ M, xnth xMs 66 = some M → Cond.methodLink KX5.1 83 M.1 ∈ xTs) := ⟨fun h => absurd h (by decide), fun _ M h => by
  obtain rfl : M = mX5_wrongWhat := Option.some.inj (h.symm.trans (by rfl))
  exact xT_in 308 (by rfl) rfl⟩
set_option maxRecDepth 100000 in
theorem xlX5_87 : (67 = 0 → Cond.methodLink KX5.1 87 Lib.Math.min.name ∈ xTs ∧ Cond.static Lib.Math.min.name ∈ xTs ∧ Cond.initialized "java/lang/Math" ∈ xTs ∧ Cond.code Lib.Math.min.name Lib.Math.min.code 2 (some .int) ∈ xTs) ∧ (67 ≠ 0 → ∀ M, xnth xMs 67 = some M → Cond.methodLink KX5.1 87 M.1 ∈ xTs) := ⟨fun h => absurd h (by decide), fun _ M h => by
  obtain rfl : M = mX5_first := Option.some.inj (h.symm.trans (by rfl))
  exact xT_in 311 (by rfl) rfl⟩
set_option maxRecDepth 100000 in
theorem xlX5_90 : (19 = 0 → Cond.methodLink KX5.1 90 Lib.Math.min.name ∈ xTs ∧ Cond.static Lib.Math.min.name ∈ xTs ∧ Cond.initialized "java/lang/Math" ∈ xTs ∧ Cond.code Lib.Math.min.name Lib.Math.min.code 2 (some .int) ∈ xTs) ∧ (19 ≠ 0 → ∀ M, xnth xMs 19 = some M → Cond.methodLink KX5.1 90 M.1 ∈ xTs) := ⟨fun h => absurd h (by decide), fun _ M h => by
  obtain rfl : M = mX1_told := Option.some.inj (h.symm.trans (by rfl))
  exact xT_in 314 (by rfl) rfl⟩
set_option maxRecDepth 100000 in
theorem xlX5_93 : (12 = 0 → Cond.methodLink KX5.1 93 Lib.Math.min.name ∈ xTs ∧ Cond.static Lib.Math.min.name ∈ xTs ∧ Cond.initialized "java/lang/Math" ∈ xTs ∧ Cond.code Lib.Math.min.name Lib.Math.min.code 2 (some .int) ∈ xTs) ∧ (12 ≠ 0 → ∀ M, xnth xMs 12 = some M → Cond.methodLink KX5.1 93 M.1 ∈ xTs) := ⟨fun h => absurd h (by decide), fun _ M h => by
  obtain rfl : M = mX1_hasWanted := Option.some.inj (h.symm.trans (by rfl))
  exact xT_in 347 (by rfl) rfl⟩
set_option maxRecDepth 100000 in
theorem xlX5_97 : (16 = 0 → Cond.methodLink KX5.1 97 Lib.Math.min.name ∈ xTs ∧ Cond.static Lib.Math.min.name ∈ xTs ∧ Cond.initialized "java/lang/Math" ∈ xTs ∧ Cond.code Lib.Math.min.name Lib.Math.min.code 2 (some .int) ∈ xTs) ∧ (16 ≠ 0 → ∀ M, xnth xMs 16 = some M → Cond.methodLink KX5.1 97 M.1 ∈ xTs) := ⟨fun h => absurd h (by decide), fun _ M h => by
  obtain rfl : M = mX1_wantedPicture := Option.some.inj (h.symm.trans (by rfl))
  exact xT_in 351 (by rfl) rfl⟩
set_option maxRecDepth 100000 in
theorem xlX5_104 : (20 = 0 → Cond.methodLink KX5.1 104 Lib.Math.min.name ∈ xTs ∧ Cond.static Lib.Math.min.name ∈ xTs ∧ Cond.initialized "java/lang/Math" ∈ xTs ∧ Cond.code Lib.Math.min.name Lib.Math.min.code 2 (some .int) ∈ xTs) ∧ (20 ≠ 0 → ∀ M, xnth xMs 20 = some M → Cond.methodLink KX5.1 104 M.1 ∈ xTs) := ⟨fun h => absurd h (by decide), fun _ M h => by
  obtain rfl : M = mX1_repriced := Option.some.inj (h.symm.trans (by rfl))
  exact xT_in 364 (by rfl) rfl⟩
set_option maxRecDepth 100000 in
theorem xlX5_107 : (72 = 0 → Cond.methodLink KX5.1 107 Lib.Math.min.name ∈ xTs ∧ Cond.static Lib.Math.min.name ∈ xTs ∧ Cond.initialized "java/lang/Math" ∈ xTs ∧ Cond.code Lib.Math.min.name Lib.Math.min.code 2 (some .int) ∈ xTs) ∧ (72 ≠ 0 → ∀ M, xnth xMs 72 = some M → Cond.methodLink KX5.1 107 M.1 ∈ xTs) := ⟨fun h => absurd h (by decide), fun _ M h => by
  obtain rfl : M = mX5_wrongSet := Option.some.inj (h.symm.trans (by rfl))
  exact xT_in 372 (by rfl) rfl⟩
set_option maxRecDepth 100000 in
theorem xlX5_207 : (11 = 0 → Cond.methodLink KX5.1 207 Lib.Math.min.name ∈ xTs ∧ Cond.static Lib.Math.min.name ∈ xTs ∧ Cond.initialized "java/lang/Math" ∈ xTs ∧ Cond.code Lib.Math.min.name Lib.Math.min.code 2 (some .int) ∈ xTs) ∧ (11 ≠ 0 → ∀ M, xnth xMs 11 = some M → Cond.methodLink KX5.1 207 M.1 ∈ xTs) := ⟨fun h => absurd h (by decide), fun _ M h => by
  obtain rfl : M = mX1_hasAll := Option.some.inj (h.symm.trans (by rfl))
  exact xT_in 376 (by rfl) rfl⟩
set_option maxRecDepth 100000 in
theorem xlX5_110 : (21 = 0 → Cond.methodLink KX5.1 110 Lib.Math.min.name ∈ xTs ∧ Cond.static Lib.Math.min.name ∈ xTs ∧ Cond.initialized "java/lang/Math" ∈ xTs ∧ Cond.code Lib.Math.min.name Lib.Math.min.code 2 (some .int) ∈ xTs) ∧ (21 ≠ 0 → ∀ M, xnth xMs 21 = some M → Cond.methodLink KX5.1 110 M.1 ∈ xTs) := ⟨fun h => absurd h (by decide), fun _ M h => by
  obtain rfl : M = mX1_laid := Option.some.inj (h.symm.trans (by rfl))
  exact xT_in 380 (by rfl) rfl⟩
set_option maxRecDepth 100000 in
theorem xlX5_113 : (14 = 0 → Cond.methodLink KX5.1 113 Lib.Math.min.name ∈ xTs ∧ Cond.static Lib.Math.min.name ∈ xTs ∧ Cond.initialized "java/lang/Math" ∈ xTs ∧ Cond.code Lib.Math.min.name Lib.Math.min.code 2 (some .int) ∈ xTs) ∧ (14 ≠ 0 → ∀ M, xnth xMs 14 = some M → Cond.methodLink KX5.1 113 M.1 ∈ xTs) := ⟨fun h => absurd h (by decide), fun _ M h => by
  obtain rfl : M = mX1_isProjectable := Option.some.inj (h.symm.trans (by rfl))
  exact xT_in 388 (by rfl) rfl⟩
set_option maxRecDepth 100000 in
theorem xlX5_116 : (23 = 0 → Cond.methodLink KX5.1 116 Lib.Math.min.name ∈ xTs ∧ Cond.static Lib.Math.min.name ∈ xTs ∧ Cond.initialized "java/lang/Math" ∈ xTs ∧ Cond.code Lib.Math.min.name Lib.Math.min.code 2 (some .int) ∈ xTs) ∧ (23 ≠ 0 → ∀ M, xnth xMs 23 = some M → Cond.methodLink KX5.1 116 M.1 ∈ xTs) := ⟨fun h => absurd h (by decide), fun _ M h => by
  obtain rfl : M = mX1_projected := Option.some.inj (h.symm.trans (by rfl))
  exact xT_in 399 (by rfl) rfl⟩
set_option maxRecDepth 100000 in
theorem xlX5_119 : (75 = 0 → Cond.methodLink KX5.1 119 Lib.Math.min.name ∈ xTs ∧ Cond.static Lib.Math.min.name ∈ xTs ∧ Cond.initialized "java/lang/Math" ∈ xTs ∧ Cond.code Lib.Math.min.name Lib.Math.min.code 2 (some .int) ∈ xTs) ∧ (75 ≠ 0 → ∀ M, xnth xMs 75 = some M → Cond.methodLink KX5.1 119 M.1 ∈ xTs) := ⟨fun h => absurd h (by decide), fun _ M h => by
  obtain rfl : M = mX5_wrongAsked := Option.some.inj (h.symm.trans (by rfl))
  exact xT_in 415 (by rfl) rfl⟩
set_option maxRecDepth 100000 in
theorem xlX5_123 : (13 = 0 → Cond.methodLink KX5.1 123 Lib.Math.min.name ∈ xTs ∧ Cond.static Lib.Math.min.name ∈ xTs ∧ Cond.initialized "java/lang/Math" ∈ xTs ∧ Cond.code Lib.Math.min.name Lib.Math.min.code 2 (some .int) ∈ xTs) ∧ (13 ≠ 0 → ∀ M, xnth xMs 13 = some M → Cond.methodLink KX5.1 123 M.1 ∈ xTs) := ⟨fun h => absurd h (by decide), fun _ M h => by
  obtain rfl : M = mJ6_bitCount_0f7a4 := Option.some.inj (h.symm.trans (by rfl))
  exact xT_in 419 (by rfl) rfl⟩
set_option maxRecDepth 100000 in
theorem xlX5_128 : (5 = 0 → Cond.methodLink KX5.1 128 Lib.Math.min.name ∈ xTs ∧ Cond.static Lib.Math.min.name ∈ xTs ∧ Cond.initialized "java/lang/Math" ∈ xTs ∧ Cond.code Lib.Math.min.name Lib.Math.min.code 2 (some .int) ∈ xTs) ∧ (5 ≠ 0 → ∀ M, xnth xMs 5 = some M → Cond.methodLink KX5.1 128 M.1 ∈ xTs) := ⟨fun h => absurd h (by decide), fun _ M h => by
  obtain rfl : M = mX0_groups := Option.some.inj (h.symm.trans (by rfl))
  exact xT_in 420 (by rfl) rfl⟩
set_option maxRecDepth 100000 in
theorem xlX5_133 : (24 = 0 → Cond.methodLink KX5.1 133 Lib.Math.min.name ∈ xTs ∧ Cond.static Lib.Math.min.name ∈ xTs ∧ Cond.initialized "java/lang/Math" ∈ xTs ∧ Cond.code Lib.Math.min.name Lib.Math.min.code 2 (some .int) ∈ xTs) ∧ (24 ≠ 0 → ∀ M, xnth xMs 24 = some M → Cond.methodLink KX5.1 133 M.1 ∈ xTs) := ⟨fun h => absurd h (by decide), fun _ M h => by
  obtain rfl : M = mX1_nearestWanted := Option.some.inj (h.symm.trans (by rfl))
  exact xT_in 430 (by rfl) rfl⟩
set_option maxRecDepth 100000 in
theorem xlX5_136 : (47 = 0 → Cond.methodLink KX5.1 136 Lib.Math.min.name ∈ xTs ∧ Cond.static Lib.Math.min.name ∈ xTs ∧ Cond.initialized "java/lang/Math" ∈ xTs ∧ Cond.code Lib.Math.min.name Lib.Math.min.code 2 (some .int) ∈ xTs) ∧ (47 ≠ 0 → ∀ M, xnth xMs 47 = some M → Cond.methodLink KX5.1 136 M.1 ∈ xTs) := ⟨fun h => absurd h (by decide), fun _ M h => by
  obtain rfl : M = mX3_findsFewest := Option.some.inj (h.symm.trans (by rfl))
  exact xT_in 438 (by rfl) rfl⟩
set_option maxRecDepth 100000 in
theorem xlX5_152 : (49 = 0 → Cond.methodLink KX5.1 152 Lib.Math.min.name ∈ xTs ∧ Cond.static Lib.Math.min.name ∈ xTs ∧ Cond.initialized "java/lang/Math" ∈ xTs ∧ Cond.code Lib.Math.min.name Lib.Math.min.code 2 (some .int) ∈ xTs) ∧ (49 ≠ 0 → ∀ M, xnth xMs 49 = some M → Cond.methodLink KX5.1 152 M.1 ∈ xTs) := ⟨fun h => absurd h (by decide), fun _ M h => by
  obtain rfl : M = mX3_leastPrice := Option.some.inj (h.symm.trans (by rfl))
  exact xT_in 472 (by rfl) rfl⟩
set_option maxRecDepth 100000 in
theorem xlX5_156 : (51 = 0 → Cond.methodLink KX5.1 156 Lib.Math.min.name ∈ xTs ∧ Cond.static Lib.Math.min.name ∈ xTs ∧ Cond.initialized "java/lang/Math" ∈ xTs ∧ Cond.code Lib.Math.min.name Lib.Math.min.code 2 (some .int) ∈ xTs) ∧ (51 ≠ 0 → ∀ M, xnth xMs 51 = some M → Cond.methodLink KX5.1 156 M.1 ∈ xTs) := ⟨fun h => absurd h (by decide), fun _ M h => by
  obtain rfl : M = mX3_leastUnlike := Option.some.inj (h.symm.trans (by rfl))
  exact xT_in 484 (by rfl) rfl⟩
set_option maxRecDepth 100000 in
theorem xlX5_162 : (53 = 0 → Cond.methodLink KX5.1 162 Lib.Math.min.name ∈ xTs ∧ Cond.static Lib.Math.min.name ∈ xTs ∧ Cond.initialized "java/lang/Math" ∈ xTs ∧ Cond.code Lib.Math.min.name Lib.Math.min.code 2 (some .int) ∈ xTs) ∧ (53 ≠ 0 → ∀ M, xnth xMs 53 = some M → Cond.methodLink KX5.1 162 M.1 ∈ xTs) := ⟨fun h => absurd h (by decide), fun _ M h => by
  obtain rfl : M = mX3_showable := Option.some.inj (h.symm.trans (by rfl))
  exact xT_in 497 (by rfl) rfl⟩
set_option maxRecDepth 100000 in
theorem xlX5_165 : (25 = 0 → Cond.methodLink KX5.1 165 Lib.Math.min.name ∈ xTs ∧ Cond.static Lib.Math.min.name ∈ xTs ∧ Cond.initialized "java/lang/Math" ∈ xTs ∧ Cond.code Lib.Math.min.name Lib.Math.min.code 2 (some .int) ∈ xTs) ∧ (25 ≠ 0 → ∀ M, xnth xMs 25 = some M → Cond.methodLink KX5.1 165 M.1 ∈ xTs) := ⟨fun h => absurd h (by decide), fun _ M h => by
  obtain rfl : M = mX1_cracksToShow := Option.some.inj (h.symm.trans (by rfl))
  exact xT_in 518 (by rfl) rfl⟩
set_option maxRecDepth 100000 in
theorem xlX5_170 : (85 = 0 → Cond.methodLink KX5.1 170 Lib.Math.min.name ∈ xTs ∧ Cond.static Lib.Math.min.name ∈ xTs ∧ Cond.initialized "java/lang/Math" ∈ xTs ∧ Cond.code Lib.Math.min.name Lib.Math.min.code 2 (some .int) ∈ xTs) ∧ (85 ≠ 0 → ∀ M, xnth xMs 85 = some M → Cond.methodLink KX5.1 170 M.1 ∈ xTs) := ⟨fun h => absurd h (by decide), fun _ M h => by
  obtain rfl : M = mX5_power := Option.some.inj (h.symm.trans (by rfl))
  exact xT_in 527 (by rfl) rfl⟩
set_option maxRecDepth 100000 in
theorem xlX5_174 : (60 = 0 → Cond.methodLink KX5.1 174 Lib.Math.min.name ∈ xTs ∧ Cond.static Lib.Math.min.name ∈ xTs ∧ Cond.initialized "java/lang/Math" ∈ xTs ∧ Cond.code Lib.Math.min.name Lib.Math.min.code 2 (some .int) ∈ xTs) ∧ (60 ≠ 0 → ∀ M, xnth xMs 60 = some M → Cond.methodLink KX5.1 174 M.1 ∈ xTs) := ⟨fun h => absurd h (by decide), fun _ M h => by
  obtain rfl : M = mX4_leastCost := Option.some.inj (h.symm.trans (by rfl))
  exact xT_in 534 (by rfl) rfl⟩
set_option maxRecDepth 100000 in
theorem xlX5_180 : (15 = 0 → Cond.methodLink KX5.1 180 Lib.Math.min.name ∈ xTs ∧ Cond.static Lib.Math.min.name ∈ xTs ∧ Cond.initialized "java/lang/Math" ∈ xTs ∧ Cond.code Lib.Math.min.name Lib.Math.min.code 2 (some .int) ∈ xTs) ∧ (15 ≠ 0 → ∀ M, xnth xMs 15 = some M → Cond.methodLink KX5.1 180 M.1 ∈ xTs) := ⟨fun h => absurd h (by decide), fun _ M h => by
  obtain rfl : M = mX1_isWanted := Option.some.inj (h.symm.trans (by rfl))
  exact xT_in 574 (by rfl) rfl⟩
set_option maxRecDepth 100000 in
theorem xlX5_186 : (90 = 0 → Cond.methodLink KX5.1 186 Lib.Math.min.name ∈ xTs ∧ Cond.static Lib.Math.min.name ∈ xTs ∧ Cond.initialized "java/lang/Math" ∈ xTs ∧ Cond.code Lib.Math.min.name Lib.Math.min.code 2 (some .int) ∈ xTs) ∧ (90 ≠ 0 → ∀ M, xnth xMs 90 = some M → Cond.methodLink KX5.1 186 M.1 ∈ xTs) := ⟨fun h => absurd h (by decide), fun _ M h => by
  obtain rfl : M = mX5_nextSeed := Option.some.inj (h.symm.trans (by rfl))
  exact xT_in 582 (by rfl) rfl⟩
set_option maxRecDepth 100000 in
theorem xlX5_189 : (91 = 0 → Cond.methodLink KX5.1 189 Lib.Math.min.name ∈ xTs ∧ Cond.static Lib.Math.min.name ∈ xTs ∧ Cond.initialized "java/lang/Math" ∈ xTs ∧ Cond.code Lib.Math.min.name Lib.Math.min.code 2 (some .int) ∈ xTs) ∧ (91 ≠ 0 → ∀ M, xnth xMs 91 = some M → Cond.methodLink KX5.1 189 M.1 ∈ xTs) := ⟨fun h => absurd h (by decide), fun _ M h => by
  obtain rfl : M = mX5_drawBelow := Option.some.inj (h.symm.trans (by rfl))
  exact xT_in 586 (by rfl) rfl⟩
set_option maxRecDepth 100000 in
theorem xlX5_199 : (26 = 0 → Cond.methodLink KX5.1 199 Lib.Math.min.name ∈ xTs ∧ Cond.static Lib.Math.min.name ∈ xTs ∧ Cond.initialized "java/lang/Math" ∈ xTs ∧ Cond.code Lib.Math.min.name Lib.Math.min.code 2 (some .int) ∈ xTs) ∧ (26 ≠ 0 → ∀ M, xnth xMs 26 = some M → Cond.methodLink KX5.1 199 M.1 ∈ xTs) := ⟨fun h => absurd h (by decide), fun _ M h => by
  obtain rfl : M = mX1_allUses := Option.some.inj (h.symm.trans (by rfl))
  exact xT_in 603 (by rfl) rfl⟩
set_option maxRecDepth 100000 in
theorem xlX5_202 : (27 = 0 → Cond.methodLink KX5.1 202 Lib.Math.min.name ∈ xTs ∧ Cond.static Lib.Math.min.name ∈ xTs ∧ Cond.initialized "java/lang/Math" ∈ xTs ∧ Cond.code Lib.Math.min.name Lib.Math.min.code 2 (some .int) ∈ xTs) ∧ (27 ≠ 0 → ∀ M, xnth xMs 27 = some M → Cond.methodLink KX5.1 202 M.1 ∈ xTs) := ⟨fun h => absurd h (by decide), fun _ M h => by
  obtain rfl : M = mX1_allPrices := Option.some.inj (h.symm.trans (by rfl))
  exact xT_in 607 (by rfl) rfl⟩
set_option maxRecDepth 100000 in
theorem okX5 : xCOk xTs xnl xMs KX5 := ⟨List.forall_mem_cons.mpr ⟨xfX5_183, List.forall_mem_cons.mpr ⟨xfX5_196, List.forall_mem_cons.mpr ⟨xfX5_100, List.forall_mem_cons.mpr ⟨xfX5_205, List.forall_mem_cons.mpr ⟨xfX5_140, List.forall_mem_cons.mpr ⟨xfX5_143, List.forall_mem_cons.mpr ⟨xfX5_146, List.forall_mem_cons.mpr ⟨xfX5_149, List.forall_mem_cons.mpr ⟨xfX5_10, List.forall_mem_cons.mpr ⟨xfX5_16, List.forall_mem_cons.mpr ⟨xfX5_19, List.forall_mem_cons.mpr ⟨xfX5_192, List.forall_mem_cons.mpr ⟨xfX5_25, List.forall_mem_cons.mpr ⟨xfX5_32, List.forall_mem_cons.mpr ⟨xfX5_39, List.forall_mem_cons.mpr ⟨xfX5_43, List.forall_mem_cons.mpr ⟨xfX5_177, List.forall_mem_cons.mpr ⟨xfX5_47, fun _ h => absurd h List.not_mem_nil⟩⟩⟩⟩⟩⟩⟩⟩⟩⟩⟩⟩⟩⟩⟩⟩⟩⟩, List.forall_mem_cons.mpr ⟨xT_in 418 (by rfl) rfl, List.forall_mem_cons.mpr ⟨xT_in 585 (by rfl) rfl, List.forall_mem_cons.mpr ⟨xT_in 589 (by rfl) rfl, List.forall_mem_cons.mpr ⟨xT_in 590 (by rfl) rfl, fun _ h => absurd h List.not_mem_nil⟩⟩⟩⟩, List.forall_mem_cons.mpr ⟨xT_in 526 (by rfl) rfl, fun _ h => absurd h List.not_mem_nil⟩, List.forall_mem_cons.mpr ⟨xlX5_50, List.forall_mem_cons.mpr ⟨xlX5_54, List.forall_mem_cons.mpr ⟨xlX5_58, List.forall_mem_cons.mpr ⟨xlX5_62, List.forall_mem_cons.mpr ⟨xlX5_65, List.forall_mem_cons.mpr ⟨xlX5_69, List.forall_mem_cons.mpr ⟨xlX5_73, List.forall_mem_cons.mpr ⟨xlX5_77, List.forall_mem_cons.mpr ⟨xlX5_80, List.forall_mem_cons.mpr ⟨xlX5_159, List.forall_mem_cons.mpr ⟨xlX5_83, List.forall_mem_cons.mpr ⟨xlX5_87, List.forall_mem_cons.mpr ⟨xlX5_90, List.forall_mem_cons.mpr ⟨xlX5_93, List.forall_mem_cons.mpr ⟨xlX5_97, List.forall_mem_cons.mpr ⟨xlX5_104, List.forall_mem_cons.mpr ⟨xlX5_107, List.forall_mem_cons.mpr ⟨xlX5_207, List.forall_mem_cons.mpr ⟨xlX5_110, List.forall_mem_cons.mpr ⟨xlX5_113, List.forall_mem_cons.mpr ⟨xlX5_116, List.forall_mem_cons.mpr ⟨xlX5_119, List.forall_mem_cons.mpr ⟨xlX5_123, List.forall_mem_cons.mpr ⟨xlX5_128, List.forall_mem_cons.mpr ⟨xlX5_133, List.forall_mem_cons.mpr ⟨xlX5_136, List.forall_mem_cons.mpr ⟨xlX5_152, List.forall_mem_cons.mpr ⟨xlX5_156, List.forall_mem_cons.mpr ⟨xlX5_162, List.forall_mem_cons.mpr ⟨xlX5_165, List.forall_mem_cons.mpr ⟨xlX5_170, List.forall_mem_cons.mpr ⟨xlX5_174, List.forall_mem_cons.mpr ⟨xlX5_180, List.forall_mem_cons.mpr ⟨xlX5_186, List.forall_mem_cons.mpr ⟨xlX5_189, List.forall_mem_cons.mpr ⟨xlX5_199, List.forall_mem_cons.mpr ⟨xlX5_202, fun _ h => absurd h List.not_mem_nil⟩⟩⟩⟩⟩⟩⟩⟩⟩⟩⟩⟩⟩⟩⟩⟩⟩⟩⟩⟩⟩⟩⟩⟩⟩⟩⟩⟩⟩⟩⟩⟩⟩⟩⟩⟩⟩⟩
set_option maxRecDepth 100000 in
theorem xfX6_7 : xFOk xTs xnl KX6.1 7 5 0 2 := ⟨RX6, TX6, 32, tyX6, rfl, by decide, xlayX6, tyX6_ok, nmX6, Or.inl (xT_in 617 (by rfl) rfl), fun h => absurd h (by decide), fun h => absurd h (by decide)⟩
set_option maxRecDepth 100000 in
theorem xfX6_13 : xFOk xTs xnl KX6.1 13 5 1 2 := ⟨RX6, TX6, 32, tyX6, rfl, by decide, xlayX6, tyX6_ok, nmX6, Or.inl (xT_in 618 (by rfl) rfl), fun h => absurd h (by decide), fun h => absurd h (by decide)⟩
set_option maxRecDepth 100000 in
theorem xfX6_16 : xFOk xTs xnl KX6.1 16 5 2 2 := ⟨RX6, TX6, 32, tyX6, rfl, by decide, xlayX6, tyX6_ok, nmX6, Or.inl (xT_in 619 (by rfl) rfl), fun h => absurd h (by decide), fun h => absurd h (by decide)⟩
set_option maxRecDepth 100000 in
theorem xfX6_19 : xFOk xTs xnl KX6.1 19 5 3 2 := ⟨RX6, TX6, 32, tyX6, rfl, by decide, xlayX6, tyX6_ok, nmX6, Or.inl (xT_in 620 (by rfl) rfl), fun h => absurd h (by decide), fun h => absurd h (by decide)⟩
set_option maxRecDepth 100000 in
theorem xfX6_22 : xFOk xTs xnl KX6.1 22 5 4 2 := ⟨RX6, TX6, 32, tyX6, rfl, by decide, xlayX6, tyX6_ok, nmX6, Or.inl (xT_in 621 (by rfl) rfl), fun h => absurd h (by decide), fun h => absurd h (by decide)⟩
set_option maxRecDepth 100000 in
theorem xfX6_25 : xFOk xTs xnl KX6.1 25 5 5 2 := ⟨RX6, TX6, 32, tyX6, rfl, by decide, xlayX6, tyX6_ok, nmX6, Or.inl (xT_in 622 (by rfl) rfl), fun h => absurd h (by decide), fun h => absurd h (by decide)⟩
set_option maxRecDepth 100000 in
theorem xfX6_28 : xFOk xTs xnl KX6.1 28 5 6 2 := ⟨RX6, TX6, 32, tyX6, rfl, by decide, xlayX6, tyX6_ok, nmX6, Or.inl (xT_in 623 (by rfl) rfl), fun h => absurd h (by decide), fun h => absurd h (by decide)⟩
set_option maxRecDepth 100000 in
theorem xfX6_64 : xFOk xTs xnl KX6.1 64 5 7 0 := ⟨RX6, TX6, 32, tyX6, rfl, by decide, xlayX6, tyX6_ok, nmX6, Or.inl (xT_in 624 (by rfl) rfl), fun _ => ⟨rfl, rfl⟩, fun h => absurd h (by decide)⟩
set_option maxRecDepth 100000 in
theorem xfX6_103 : xFOk xTs xnl KX6.1 103 5 8 0 := ⟨RX6, TX6, 32, tyX6, rfl, by decide, xlayX6, tyX6_ok, nmX6, Or.inl (xT_in 625 (by rfl) rfl), fun _ => ⟨rfl, rfl⟩, fun h => absurd h (by decide)⟩
set_option maxRecDepth 100000 in
theorem xfX6_31 : xFOk xTs xnl KX6.1 31 5 9 0 := ⟨RX6, TX6, 32, tyX6, rfl, by decide, xlayX6, tyX6_ok, nmX6, Or.inl (xT_in 626 (by rfl) rfl), fun _ => ⟨rfl, rfl⟩, fun h => absurd h (by decide)⟩
set_option maxRecDepth 100000 in
theorem xfX6_35 : xFOk xTs xnl KX6.1 35 5 10 2 := ⟨RX6, TX6, 32, tyX6, rfl, by decide, xlayX6, tyX6_ok, nmX6, Or.inl (xT_in 627 (by rfl) rfl), fun h => absurd h (by decide), fun h => absurd h (by decide)⟩
set_option maxRecDepth 100000 in
theorem xfX6_38 : xFOk xTs xnl KX6.1 38 5 11 2 := ⟨RX6, TX6, 32, tyX6, rfl, by decide, xlayX6, tyX6_ok, nmX6, Or.inl (xT_in 628 (by rfl) rfl), fun h => absurd h (by decide), fun h => absurd h (by decide)⟩
set_option maxRecDepth 100000 in
theorem xfX6_41 : xFOk xTs xnl KX6.1 41 5 12 2 := ⟨RX6, TX6, 32, tyX6, rfl, by decide, xlayX6, tyX6_ok, nmX6, Or.inl (xT_in 629 (by rfl) rfl), fun h => absurd h (by decide), fun h => absurd h (by decide)⟩
set_option maxRecDepth 100000 in
theorem xfX6_44 : xFOk xTs xnl KX6.1 44 5 13 2 := ⟨RX6, TX6, 32, tyX6, rfl, by decide, xlayX6, tyX6_ok, nmX6, Or.inl (xT_in 630 (by rfl) rfl), fun h => absurd h (by decide), fun h => absurd h (by decide)⟩
set_option maxRecDepth 100000 in
theorem xfX6_71 : xFOk xTs xnl KX6.1 71 5 14 0 := ⟨RX6, TX6, 32, tyX6, rfl, by decide, xlayX6, tyX6_ok, nmX6, Or.inl (xT_in 631 (by rfl) rfl), fun _ => ⟨rfl, rfl⟩, fun h => absurd h (by decide)⟩
set_option maxRecDepth 100000 in
theorem xfX6_78 : xFOk xTs xnl KX6.1 78 5 15 0 := ⟨RX6, TX6, 32, tyX6, rfl, by decide, xlayX6, tyX6_ok, nmX6, Or.inl (xT_in 632 (by rfl) rfl), fun _ => ⟨rfl, rfl⟩, fun h => absurd h (by decide)⟩
set_option maxRecDepth 100000 in
theorem xfX6_97 : xFOk xTs xnl KX6.1 97 5 16 0 := ⟨RX6, TX6, 32, tyX6, rfl, by decide, xlayX6, tyX6_ok, nmX6, Or.inl (xT_in 633 (by rfl) rfl), fun _ => ⟨rfl, rfl⟩, fun h => absurd h (by decide)⟩
set_option maxRecDepth 100000 in
theorem xfX6_47 : xFOk xTs xnl KX6.1 47 5 17 2 := ⟨RX6, TX6, 32, tyX6, rfl, by decide, xlayX6, tyX6_ok, nmX6, Or.inl (xT_in 634 (by rfl) rfl), fun h => absurd h (by decide), fun h => absurd h (by decide)⟩
set_option maxRecDepth 100000 in
theorem xfX6_131 : xFOk xTs xnl KX6.1 131 5 18 1 := ⟨RX6, TX6, 32, tyX6, rfl, by decide, xlayX6, tyX6_ok, nmX6, Or.inl (xT_in 635 (by rfl) rfl), fun h => absurd h (by decide), fun _ => ⟨rfl, rfl⟩⟩
set_option maxRecDepth 100000 in
theorem xfX6_117 : xFOk xTs xnl KX6.1 117 5 19 1 := ⟨RX6, TX6, 32, tyX6, rfl, by decide, xlayX6, tyX6_ok, nmX6, Or.inl (xT_in 636 (by rfl) rfl), fun h => absurd h (by decide), fun _ => ⟨rfl, rfl⟩⟩
set_option maxRecDepth 100000 in
theorem xfX6_121 : xFOk xTs xnl KX6.1 121 5 20 0 := ⟨RX6, TX6, 32, tyX6, rfl, by decide, xlayX6, tyX6_ok, nmX6, Or.inl (xT_in 637 (by rfl) rfl), fun _ => ⟨rfl, rfl⟩, fun h => absurd h (by decide)⟩
set_option maxRecDepth 100000 in
theorem xfX6_170 : xFOk xTs xnl KX6.1 170 5 21 0 := ⟨RX6, TX6, 32, tyX6, rfl, by decide, xlayX6, tyX6_ok, nmX6, Or.inl (xT_in 638 (by rfl) rfl), fun _ => ⟨rfl, rfl⟩, fun h => absurd h (by decide)⟩
set_option maxRecDepth 100000 in
theorem xfX6_173 : xFOk xTs xnl KX6.1 173 5 22 0 := ⟨RX6, TX6, 32, tyX6, rfl, by decide, xlayX6, tyX6_ok, nmX6, Or.inl (xT_in 639 (by rfl) rfl), fun _ => ⟨rfl, rfl⟩, fun h => absurd h (by decide)⟩
set_option maxRecDepth 100000 in
theorem xfX6_176 : xFOk xTs xnl KX6.1 176 5 23 0 := ⟨RX6, TX6, 32, tyX6, rfl, by decide, xlayX6, tyX6_ok, nmX6, Or.inl (xT_in 640 (by rfl) rfl), fun _ => ⟨rfl, rfl⟩, fun h => absurd h (by decide)⟩
set_option maxRecDepth 100000 in
theorem xfX6_179 : xFOk xTs xnl KX6.1 179 5 24 0 := ⟨RX6, TX6, 32, tyX6, rfl, by decide, xlayX6, tyX6_ok, nmX6, Or.inl (xT_in 641 (by rfl) rfl), fun _ => ⟨rfl, rfl⟩, fun h => absurd h (by decide)⟩
set_option maxRecDepth 100000 in
theorem xfX6_182 : xFOk xTs xnl KX6.1 182 5 25 0 := ⟨RX6, TX6, 32, tyX6, rfl, by decide, xlayX6, tyX6_ok, nmX6, Or.inl (xT_in 642 (by rfl) rfl), fun _ => ⟨rfl, rfl⟩, fun h => absurd h (by decide)⟩
set_option maxRecDepth 100000 in
theorem xfX6_185 : xFOk xTs xnl KX6.1 185 5 26 0 := ⟨RX6, TX6, 32, tyX6, rfl, by decide, xlayX6, tyX6_ok, nmX6, Or.inl (xT_in 643 (by rfl) rfl), fun _ => ⟨rfl, rfl⟩, fun h => absurd h (by decide)⟩
set_option maxRecDepth 100000 in
theorem xfX6_50 : xFOk xTs xnl KX6.1 50 5 27 2 := ⟨RX6, TX6, 32, tyX6, rfl, by decide, xlayX6, tyX6_ok, nmX6, Or.inl (xT_in 644 (by rfl) rfl), fun h => absurd h (by decide), fun h => absurd h (by decide)⟩
set_option maxRecDepth 100000 in
theorem xfX6_53 : xFOk xTs xnl KX6.1 53 5 28 2 := ⟨RX6, TX6, 32, tyX6, rfl, by decide, xlayX6, tyX6_ok, nmX6, Or.inl (xT_in 645 (by rfl) rfl), fun h => absurd h (by decide), fun h => absurd h (by decide)⟩
set_option maxRecDepth 100000 in
theorem xfX6_56 : xFOk xTs xnl KX6.1 56 5 29 2 := ⟨RX6, TX6, 32, tyX6, rfl, by decide, xlayX6, tyX6_ok, nmX6, Or.inl (xT_in 646 (by rfl) rfl), fun h => absurd h (by decide), fun h => absurd h (by decide)⟩
set_option maxRecDepth 100000 in
theorem xfX6_59 : xFOk xTs xnl KX6.1 59 5 30 2 := ⟨RX6, TX6, 32, tyX6, rfl, by decide, xlayX6, tyX6_ok, nmX6, Or.inl (xT_in 647 (by rfl) rfl), fun h => absurd h (by decide), fun h => absurd h (by decide)⟩
set_option maxRecDepth 100000 in
theorem xfX6_230 : xFOk xTs xnl KX6.1 230 5 31 0 := ⟨RX6, TX6, 32, tyX6, rfl, by decide, xlayX6, tyX6_ok, nmX6, Or.inl (xT_in 648 (by rfl) rfl), fun _ => ⟨rfl, rfl⟩, fun h => absurd h (by decide)⟩
set_option maxRecDepth 100000 in
theorem xlX6_67 : (99 = 0 → Cond.methodLink KX6.1 67 Lib.Math.min.name ∈ xTs ∧ Cond.static Lib.Math.min.name ∈ xTs ∧ Cond.initialized "java/lang/Math" ∈ xTs ∧ Cond.code Lib.Math.min.name Lib.Math.min.code 2 (some .int) ∈ xTs) ∧ (99 ≠ 0 → ∀ M, xnth xMs 99 = some M → Cond.methodLink KX6.1 67 M.1 ∈ xTs) := ⟨fun h => absurd h (by decide), fun _ M h => by
  obtain rfl : M = mX6_bound := Option.some.inj (h.symm.trans (by rfl))
  exact xT_in 718 (by rfl) rfl⟩
set_option maxRecDepth 100000 in
theorem xlX6_74 : (96 = 0 → Cond.methodLink KX6.1 74 Lib.Math.min.name ∈ xTs ∧ Cond.static Lib.Math.min.name ∈ xTs ∧ Cond.initialized "java/lang/Math" ∈ xTs ∧ Cond.code Lib.Math.min.name Lib.Math.min.code 2 (some .int) ∈ xTs) ∧ (96 ≠ 0 → ∀ M, xnth xMs 96 = some M → Cond.methodLink KX6.1 74 M.1 ∈ xTs) := ⟨fun h => absurd h (by decide), fun _ M h => by
  obtain rfl : M = mX6_no := Option.some.inj (h.symm.trans (by rfl))
  exact xT_in 721 (by rfl) rfl⟩
set_option maxRecDepth 100000 in
theorem xlX6_106 : (107 = 0 → Cond.methodLink KX6.1 106 Lib.Math.min.name ∈ xTs ∧ Cond.static Lib.Math.min.name ∈ xTs ∧ Cond.initialized "java/lang/Math" ∈ xTs ∧ Cond.code Lib.Math.min.name Lib.Math.min.code 2 (some .int) ∈ xTs) ∧ (107 ≠ 0 → ∀ M, xnth xMs 107 = some M → Cond.methodLink KX6.1 106 M.1 ∈ xTs) := ⟨fun h => absurd h (by decide), fun _ M h => by
  obtain rfl : M = mX6_statement := Option.some.inj (h.symm.trans (by rfl))
  exact xT_in 729 (by rfl) rfl⟩
set_option maxRecDepth 100000 in
theorem xlX6_81 : (103 = 0 → Cond.methodLink KX6.1 81 Lib.Math.min.name ∈ xTs ∧ Cond.static Lib.Math.min.name ∈ xTs ∧ Cond.initialized "java/lang/Math" ∈ xTs ∧ Cond.code Lib.Math.min.name Lib.Math.min.code 2 (some .int) ∈ xTs) ∧ (103 ≠ 0 → ∀ M, xnth xMs 103 = some M → Cond.methodLink KX6.1 81 M.1 ∈ xTs) := ⟨fun h => absurd h (by decide), fun _ M h => by
  obtain rfl : M = mX6_next := Option.some.inj (h.symm.trans (by rfl))
  exact xT_in 733 (by rfl) rfl⟩
set_option maxRecDepth 100000 in
theorem xlX6_100 : (106 = 0 → Cond.methodLink KX6.1 100 Lib.Math.min.name ∈ xTs ∧ Cond.static Lib.Math.min.name ∈ xTs ∧ Cond.initialized "java/lang/Math" ∈ xTs ∧ Cond.code Lib.Math.min.name Lib.Math.min.code 2 (some .int) ∈ xTs) ∧ (106 ≠ 0 → ∀ M, xnth xMs 106 = some M → Cond.methodLink KX6.1 100 M.1 ∈ xTs) := ⟨fun h => absurd h (by decide), fun _ M h => by
  obtain rfl : M = mX6_readsSlide := Option.some.inj (h.symm.trans (by rfl))
  exact xT_in 737 (by rfl) rfl⟩
set_option maxRecDepth 100000 in
theorem xlX6_89 : (104 = 0 → Cond.methodLink KX6.1 89 Lib.Math.min.name ∈ xTs ∧ Cond.static Lib.Math.min.name ∈ xTs ∧ Cond.initialized "java/lang/Math" ∈ xTs ∧ Cond.code Lib.Math.min.name Lib.Math.min.code 2 (some .int) ∈ xTs) ∧ (104 ≠ 0 → ∀ M, xnth xMs 104 = some M → Cond.methodLink KX6.1 89 M.1 ∈ xTs) := ⟨fun h => absurd h (by decide), fun _ M h => by
  obtain rfl : M = mX6_readsNumber := Option.some.inj (h.symm.trans (by rfl))
  exact xT_in 741 (by rfl) rfl⟩
set_option maxRecDepth 100000 in
theorem xlX6_85 : (98 = 0 → Cond.methodLink KX6.1 85 Lib.Math.min.name ∈ xTs ∧ Cond.static Lib.Math.min.name ∈ xTs ∧ Cond.initialized "java/lang/Math" ∈ xTs ∧ Cond.code Lib.Math.min.name Lib.Math.min.code 2 (some .int) ∈ xTs) ∧ (98 ≠ 0 → ∀ M, xnth xMs 98 = some M → Cond.methodLink KX6.1 85 M.1 ∈ xTs) := ⟨fun h => absurd h (by decide), fun _ M h => by
  obtain rfl : M = mX6_isIn := Option.some.inj (h.symm.trans (by rfl))
  exact xT_in 745 (by rfl) rfl⟩
set_option maxRecDepth 100000 in
theorem xlX6_93 : (105 = 0 → Cond.methodLink KX6.1 93 Lib.Math.min.name ∈ xTs ∧ Cond.static Lib.Math.min.name ∈ xTs ∧ Cond.initialized "java/lang/Math" ∈ xTs ∧ Cond.code Lib.Math.min.name Lib.Math.min.code 2 (some .int) ∈ xTs) ∧ (105 ≠ 0 → ∀ M, xnth xMs 105 = some M → Cond.methodLink KX6.1 93 M.1 ∈ xTs) := ⟨fun h => absurd h (by decide), fun _ M h => by
  obtain rfl : M = mX6_readsPicture := Option.some.inj (h.symm.trans (by rfl))
  exact xT_in 748 (by rfl) rfl⟩
set_option maxRecDepth 100000 in
theorem xlX6_110 : (111 = 0 → Cond.methodLink KX6.1 110 Lib.Math.min.name ∈ xTs ∧ Cond.static Lib.Math.min.name ∈ xTs ∧ Cond.initialized "java/lang/Math" ∈ xTs ∧ Cond.code Lib.Math.min.name Lib.Math.min.code 2 (some .int) ∈ xTs) ∧ (111 ≠ 0 → ∀ M, xnth xMs 111 = some M → Cond.methodLink KX6.1 110 M.1 ∈ xTs) := ⟨fun h => absurd h (by decide), fun _ M h => by
  obtain rfl : M = mX6_passesAll := Option.some.inj (h.symm.trans (by rfl))
  exact xT_in 752 (by rfl) rfl⟩
set_option maxRecDepth 100000 in
theorem xlX6_124 : (109 = 0 → Cond.methodLink KX6.1 124 Lib.Math.min.name ∈ xTs ∧ Cond.static Lib.Math.min.name ∈ xTs ∧ Cond.initialized "java/lang/Math" ∈ xTs ∧ Cond.code Lib.Math.min.name Lib.Math.min.code 2 (some .int) ∈ xTs) ∧ (109 ≠ 0 → ∀ M, xnth xMs 109 = some M → Cond.methodLink KX6.1 124 M.1 ∈ xTs) := ⟨fun h => absurd h (by decide), fun _ M h => by
  obtain rfl : M = mX6_passes := Option.some.inj (h.symm.trans (by rfl))
  exact xT_in 756 (by rfl) rfl⟩
set_option maxRecDepth 100000 in
theorem xlX6_128 : (110 = 0 → Cond.methodLink KX6.1 128 Lib.Math.min.name ∈ xTs ∧ Cond.static Lib.Math.min.name ∈ xTs ∧ Cond.initialized "java/lang/Math" ∈ xTs ∧ Cond.code Lib.Math.min.name Lib.Math.min.code 2 (some .int) ∈ xTs) ∧ (110 ≠ 0 → ∀ M, xnth xMs 110 = some M → Cond.methodLink KX6.1 128 M.1 ∈ xTs) := ⟨fun h => absurd h (by decide), fun _ M h => by
  obtain rfl : M = mX6_passOne := Option.some.inj (h.symm.trans (by rfl))
  exact xT_in 760 (by rfl) rfl⟩
set_option maxRecDepth 100000 in
theorem xlX6_114 : (108 = 0 → Cond.methodLink KX6.1 114 Lib.Math.min.name ∈ xTs ∧ Cond.static Lib.Math.min.name ∈ xTs ∧ Cond.initialized "java/lang/Math" ∈ xTs ∧ Cond.code Lib.Math.min.name Lib.Math.min.code 2 (some .int) ∈ xTs) ∧ (108 ≠ 0 → ∀ M, xnth xMs 108 = some M → Cond.methodLink KX6.1 114 M.1 ∈ xTs) := ⟨fun h => absurd h (by decide), fun _ M h => by
  obtain rfl : M = mX6_comes := Option.some.inj (h.symm.trans (by rfl))
  exact xT_in 764 (by rfl) rfl⟩
set_option maxRecDepth 100000 in
theorem xlX6_148 : (100 = 0 → Cond.methodLink KX6.1 148 Lib.Math.min.name ∈ xTs ∧ Cond.static Lib.Math.min.name ∈ xTs ∧ Cond.initialized "java/lang/Math" ∈ xTs ∧ Cond.code Lib.Math.min.name Lib.Math.min.code 2 (some .int) ∈ xTs) ∧ (100 ≠ 0 → ∀ M, xnth xMs 100 = some M → Cond.methodLink KX6.1 148 M.1 ∈ xTs) := ⟨fun h => absurd h (by decide), fun _ M h => by
  obtain rfl : M = mX6_isSlide := Option.some.inj (h.symm.trans (by rfl))
  exact xT_in 780 (by rfl) rfl⟩
set_option maxRecDepth 100000 in
theorem xlX6_145 : (119 = 0 → Cond.methodLink KX6.1 145 Lib.Math.min.name ∈ xTs ∧ Cond.static Lib.Math.min.name ∈ xTs ∧ Cond.initialized "java/lang/Math" ∈ xTs ∧ Cond.code Lib.Math.min.name Lib.Math.min.code 2 (some .int) ∈ xTs) ∧ (119 ≠ 0 → ∀ M, xnth xMs 119 = some M → Cond.methodLink KX6.1 145 M.1 ∈ xTs) := ⟨fun h => absurd h (by decide), fun _ M h => by
  obtain rfl : M = mX6_onSlide := Option.some.inj (h.symm.trans (by rfl))
  exact xT_in 784 (by rfl) rfl⟩
set_option maxRecDepth 100000 in
theorem xlX6_134 : (116 = 0 → Cond.methodLink KX6.1 134 Lib.Math.min.name ∈ xTs ∧ Cond.static Lib.Math.min.name ∈ xTs ∧ Cond.initialized "java/lang/Math" ∈ xTs ∧ Cond.code Lib.Math.min.name Lib.Math.min.code 2 (some .int) ∈ xTs) ∧ (116 ≠ 0 → ∀ M, xnth xMs 116 = some M → Cond.methodLink KX6.1 134 M.1 ∈ xTs) := ⟨fun h => absurd h (by decide), fun _ M h => by
  obtain rfl : M = mX6_mirrored := Option.some.inj (h.symm.trans (by rfl))
  exact xT_in 788 (by rfl) rfl⟩
set_option maxRecDepth 100000 in
theorem xlX6_137 : (117 = 0 → Cond.methodLink KX6.1 137 Lib.Math.min.name ∈ xTs ∧ Cond.static Lib.Math.min.name ∈ xTs ∧ Cond.initialized "java/lang/Math" ∈ xTs ∧ Cond.code Lib.Math.min.name Lib.Math.min.code 2 (some .int) ∈ xTs) ∧ (117 ≠ 0 → ∀ M, xnth xMs 117 = some M → Cond.methodLink KX6.1 137 M.1 ∈ xTs) := ⟨fun h => absurd h (by decide), fun _ M h => by
  obtain rfl : M = mX6_upsideDown := Option.some.inj (h.symm.trans (by rfl))
  exact xT_in 791 (by rfl) rfl⟩
set_option maxRecDepth 100000 in
theorem xlX6_141 : (118 = 0 → Cond.methodLink KX6.1 141 Lib.Math.min.name ∈ xTs ∧ Cond.static Lib.Math.min.name ∈ xTs ∧ Cond.initialized "java/lang/Math" ∈ xTs ∧ Cond.code Lib.Math.min.name Lib.Math.min.code 2 (some .int) ∈ xTs) ∧ (118 ≠ 0 → ∀ M, xnth xMs 118 = some M → Cond.methodLink KX6.1 141 M.1 ∈ xTs) := ⟨fun h => absurd h (by decide), fun _ M h => by
  obtain rfl : M = mX6_shifted := Option.some.inj (h.symm.trans (by rfl))
  exact xT_in 795 (by rfl) rfl⟩
set_option maxRecDepth 100000 in
theorem xlX6_151 : (101 = 0 → Cond.methodLink KX6.1 151 Lib.Math.min.name ∈ xTs ∧ Cond.static Lib.Math.min.name ∈ xTs ∧ Cond.initialized "java/lang/Math" ∈ xTs ∧ Cond.code Lib.Math.min.name Lib.Math.min.code 2 (some .int) ∈ xTs) ∧ (101 ≠ 0 → ∀ M, xnth xMs 101 = some M → Cond.methodLink KX6.1 151 M.1 ∈ xTs) := ⟨fun h => absurd h (by decide), fun _ M h => by
  obtain rfl : M = mX6_areSlides := Option.some.inj (h.symm.trans (by rfl))
  exact xT_in 814 (by rfl) rfl⟩
set_option maxRecDepth 100000 in
theorem xlX6_154 : (120 = 0 → Cond.methodLink KX6.1 154 Lib.Math.min.name ∈ xTs ∧ Cond.static Lib.Math.min.name ∈ xTs ∧ Cond.initialized "java/lang/Math" ∈ xTs ∧ Cond.code Lib.Math.min.name Lib.Math.min.code 2 (some .int) ∈ xTs) ∧ (120 ≠ 0 → ∀ M, xnth xMs 120 = some M → Cond.methodLink KX6.1 154 M.1 ∈ xTs) := ⟨fun h => absurd h (by decide), fun _ M h => by
  obtain rfl : M = mX6_laid := Option.some.inj (h.symm.trans (by rfl))
  exact xT_in 818 (by rfl) rfl⟩
set_option maxRecDepth 100000 in
theorem xlX6_160 : (127 = 0 → Cond.methodLink KX6.1 160 Lib.Math.min.name ∈ xTs ∧ Cond.static Lib.Math.min.name ∈ xTs ∧ Cond.initialized "java/lang/Math" ∈ xTs ∧ Cond.code Lib.Math.min.name Lib.Math.min.code 2 (some .int) ∈ xTs) ∧ (127 ≠ 0 → ∀ M, xnth xMs 127 = some M → Cond.methodLink KX6.1 160 M.1 ∈ xTs) := ⟨fun h => absurd h (by decide), fun _ M h => by
  obtain rfl : M = mX6_isShow := Option.some.inj (h.symm.trans (by rfl))
  exact xT_in 826 (by rfl) rfl⟩
set_option maxRecDepth 100000 in
theorem xlX6_157 : (115 = 0 → Cond.methodLink KX6.1 157 Lib.Math.min.name ∈ xTs ∧ Cond.static Lib.Math.min.name ∈ xTs ∧ Cond.initialized "java/lang/Math" ∈ xTs ∧ Cond.code Lib.Math.min.name Lib.Math.min.code 2 (some .int) ∈ xTs) ∧ (115 ≠ 0 → ∀ M, xnth xMs 115 = some M → Cond.methodLink KX6.1 157 M.1 ∈ xTs) := ⟨fun h => absurd h (by decide), fun _ M h => by
  obtain rfl : M = mX6_bits := Option.some.inj (h.symm.trans (by rfl))
  exact xT_in 830 (by rfl) rfl⟩
set_option maxRecDepth 100000 in
theorem xlX6_163 : (126 = 0 → Cond.methodLink KX6.1 163 Lib.Math.min.name ∈ xTs ∧ Cond.static Lib.Math.min.name ∈ xTs ∧ Cond.initialized "java/lang/Math" ∈ xTs ∧ Cond.code Lib.Math.min.name Lib.Math.min.code 2 (some .int) ∈ xTs) ∧ (126 ≠ 0 → ∀ M, xnth xMs 126 = some M → Cond.methodLink KX6.1 163 M.1 ∈ xTs) := ⟨fun h => absurd h (by decide), fun _ M h => by
  obtain rfl : M = mX6_projects := Option.some.inj (h.symm.trans (by rfl))
  exact xT_in 833 (by rfl) rfl⟩
set_option maxRecDepth 100000 in
theorem xlX6_167 : (129 = 0 → Cond.methodLink KX6.1 167 Lib.Math.min.name ∈ xTs ∧ Cond.static Lib.Math.min.name ∈ xTs ∧ Cond.initialized "java/lang/Math" ∈ xTs ∧ Cond.code Lib.Math.min.name Lib.Math.min.code 2 (some .int) ∈ xTs) ∧ (129 ≠ 0 → ∀ M, xnth xMs 129 = some M → Cond.methodLink KX6.1 167 M.1 ∈ xTs) := ⟨fun h => absurd h (by decide), fun _ M h => by
  obtain rfl : M = mX6_groups := Option.some.inj (h.symm.trans (by rfl))
  exact xT_in 841 (by rfl) rfl⟩
set_option maxRecDepth 100000 in
theorem xlX6_195 : (134 = 0 → Cond.methodLink KX6.1 195 Lib.Math.min.name ∈ xTs ∧ Cond.static Lib.Math.min.name ∈ xTs ∧ Cond.initialized "java/lang/Math" ∈ xTs ∧ Cond.code Lib.Math.min.name Lib.Math.min.code 2 (some .int) ∈ xTs) ∧ (134 ≠ 0 → ∀ M, xnth xMs 134 = some M → Cond.methodLink KX6.1 195 M.1 ∈ xTs) := ⟨fun h => absurd h (by decide), fun _ M h => by
  obtain rfl : M = mX6_findShown := Option.some.inj (h.symm.trans (by rfl))
  exact xT_in 853 (by rfl) rfl⟩
set_option maxRecDepth 100000 in
theorem xlX6_188 : (133 = 0 → Cond.methodLink KX6.1 188 Lib.Math.min.name ∈ xTs ∧ Cond.static Lib.Math.min.name ∈ xTs ∧ Cond.initialized "java/lang/Math" ∈ xTs ∧ Cond.code Lib.Math.min.name Lib.Math.min.code 2 (some .int) ∈ xTs) ∧ (133 ≠ 0 → ∀ M, xnth xMs 133 = some M → Cond.methodLink KX6.1 188 M.1 ∈ xTs) := ⟨fun h => absurd h (by decide), fun _ M h => by
  obtain rfl : M = mX6_tellsShown := Option.some.inj (h.symm.trans (by rfl))
  exact xT_in 857 (by rfl) rfl⟩
set_option maxRecDepth 100000 in
theorem xlX6_192 : (132 = 0 → Cond.methodLink KX6.1 192 Lib.Math.min.name ∈ xTs ∧ Cond.static Lib.Math.min.name ∈ xTs ∧ Cond.initialized "java/lang/Math" ∈ xTs ∧ Cond.code Lib.Math.min.name Lib.Math.min.code 2 (some .int) ∈ xTs) ∧ (132 ≠ 0 → ∀ M, xnth xMs 132 = some M → Cond.methodLink KX6.1 192 M.1 ∈ xTs) := ⟨fun h => absurd h (by decide), fun _ M h => by
  obtain rfl : M = mX6_pricesOf := Option.some.inj (h.symm.trans (by rfl))
  exact xT_in 861 (by rfl) rfl⟩
set_option maxRecDepth 100000 in
theorem xlX6_199 : (138 = 0 → Cond.methodLink KX6.1 199 Lib.Math.min.name ∈ xTs ∧ Cond.static Lib.Math.min.name ∈ xTs ∧ Cond.initialized "java/lang/Math" ∈ xTs ∧ Cond.code Lib.Math.min.name Lib.Math.min.code 2 (some .int) ∈ xTs) ∧ (138 ≠ 0 → ∀ M, xnth xMs 138 = some M → Cond.methodLink KX6.1 199 M.1 ∈ xTs) := ⟨fun h => absurd h (by decide), fun _ M h => by
  obtain rfl : M = mX6_canWithout := Option.some.inj (h.symm.trans (by rfl))
  exact xT_in 877 (by rfl) rfl⟩
set_option maxRecDepth 100000 in
theorem xlX6_202 : (141 = 0 → Cond.methodLink KX6.1 202 Lib.Math.min.name ∈ xTs ∧ Cond.static Lib.Math.min.name ∈ xTs ∧ Cond.initialized "java/lang/Math" ∈ xTs ∧ Cond.code Lib.Math.min.name Lib.Math.min.code 2 (some .int) ∈ xTs) ∧ (141 ≠ 0 → ∀ M, xnth xMs 141 = some M → Cond.methodLink KX6.1 202 M.1 ∈ xTs) := ⟨fun h => absurd h (by decide), fun _ M h => by
  obtain rfl : M = mX6_notAsked := Option.some.inj (h.symm.trans (by rfl))
  exact xT_in 889 (by rfl) rfl⟩
set_option maxRecDepth 100000 in
theorem xlX6_206 : (97 = 0 → Cond.methodLink KX6.1 206 Lib.Math.min.name ∈ xTs ∧ Cond.static Lib.Math.min.name ∈ xTs ∧ Cond.initialized "java/lang/Math" ∈ xTs ∧ Cond.code Lib.Math.min.name Lib.Math.min.code 2 (some .int) ∈ xTs) ∧ (97 ≠ 0 → ∀ M, xnth xMs 97 = some M → Cond.methodLink KX6.1 206 M.1 ∈ xTs) := ⟨fun h => absurd h (by decide), fun _ M h => by
  obtain rfl : M = mX6_lowest := Option.some.inj (h.symm.trans (by rfl))
  exact xT_in 901 (by rfl) rfl⟩
set_option maxRecDepth 100000 in
theorem xlX6_212 : (144 = 0 → Cond.methodLink KX6.1 212 Lib.Math.min.name ∈ xTs ∧ Cond.static Lib.Math.min.name ∈ xTs ∧ Cond.initialized "java/lang/Math" ∈ xTs ∧ Cond.code Lib.Math.min.name Lib.Math.min.code 2 (some .int) ∈ xTs) ∧ (144 ≠ 0 → ∀ M, xnth xMs 144 = some M → Cond.methodLink KX6.1 212 M.1 ∈ xTs) := ⟨fun h => absurd h (by decide), fun _ M h => by
  obtain rfl : M = mX6_divisor := Option.some.inj (h.symm.trans (by rfl))
  exact xT_in 907 (by rfl) rfl⟩
set_option maxRecDepth 100000 in
theorem xlX6_223 : (146 = 0 → Cond.methodLink KX6.1 223 Lib.Math.min.name ∈ xTs ∧ Cond.static Lib.Math.min.name ∈ xTs ∧ Cond.initialized "java/lang/Math" ∈ xTs ∧ Cond.code Lib.Math.min.name Lib.Math.min.code 2 (some .int) ∈ xTs) ∧ (146 ≠ 0 → ∀ M, xnth xMs 146 = some M → Cond.methodLink KX6.1 223 M.1 ∈ xTs) := ⟨fun h => absurd h (by decide), fun _ M h => by
  obtain rfl : M = mX6_findAsked := Option.some.inj (h.symm.trans (by rfl))
  exact xT_in 914 (by rfl) rfl⟩
set_option maxRecDepth 100000 in
theorem xlX6_216 : (147 = 0 → Cond.methodLink KX6.1 216 Lib.Math.min.name ∈ xTs ∧ Cond.static Lib.Math.min.name ∈ xTs ∧ Cond.initialized "java/lang/Math" ∈ xTs ∧ Cond.code Lib.Math.min.name Lib.Math.min.code 2 (some .int) ∈ xTs) ∧ (147 ≠ 0 → ∀ M, xnth xMs 147 = some M → Cond.methodLink KX6.1 216 M.1 ∈ xTs) := ⟨fun h => absurd h (by decide), fun _ M h => by
  obtain rfl : M = mX6_placeOf := Option.some.inj (h.symm.trans (by rfl))
  exact xT_in 918 (by rfl) rfl⟩
set_option maxRecDepth 100000 in
theorem xlX6_219 : (148 = 0 → Cond.methodLink KX6.1 219 Lib.Math.min.name ∈ xTs ∧ Cond.static Lib.Math.min.name ∈ xTs ∧ Cond.initialized "java/lang/Math" ∈ xTs ∧ Cond.code Lib.Math.min.name Lib.Math.min.code 2 (some .int) ∈ xTs) ∧ (148 ≠ 0 → ∀ M, xnth xMs 148 = some M → Cond.methodLink KX6.1 219 M.1 ∈ xTs) := ⟨fun h => absurd h (by decide), fun _ M h => by
  obtain rfl : M = mX6_lowers := Option.some.inj (h.symm.trans (by rfl))
  exact xT_in 921 (by rfl) rfl⟩
set_option maxRecDepth 100000 in
theorem xlX6_226 : (149 = 0 → Cond.methodLink KX6.1 226 Lib.Math.min.name ∈ xTs ∧ Cond.static Lib.Math.min.name ∈ xTs ∧ Cond.initialized "java/lang/Math" ∈ xTs ∧ Cond.code Lib.Math.min.name Lib.Math.min.code 2 (some .int) ∈ xTs) ∧ (149 ≠ 0 → ∀ M, xnth xMs 149 = some M → Cond.methodLink KX6.1 226 M.1 ∈ xTs) := ⟨fun h => absurd h (by decide), fun _ M h => by
  obtain rfl : M = mX6_goesFrom := Option.some.inj (h.symm.trans (by rfl))
  exact xT_in 925 (by rfl) rfl⟩
set_option maxRecDepth 100000 in
theorem xlX6_233 : (152 = 0 → Cond.methodLink KX6.1 233 Lib.Math.min.name ∈ xTs ∧ Cond.static Lib.Math.min.name ∈ xTs ∧ Cond.initialized "java/lang/Math" ∈ xTs ∧ Cond.code Lib.Math.min.name Lib.Math.min.code 2 (some .int) ∈ xTs) ∧ (152 ≠ 0 → ∀ M, xnth xMs 152 = some M → Cond.methodLink KX6.1 233 M.1 ∈ xTs) := ⟨fun h => absurd h (by decide), fun _ M h => by
  obtain rfl : M = mX6_isWish := Option.some.inj (h.symm.trans (by rfl))
  exact xT_in 937 (by rfl) rfl⟩
set_option maxRecDepth 100000 in
theorem okX6 : xCOk xTs xnl xMs KX6 := ⟨List.forall_mem_cons.mpr ⟨xfX6_7, List.forall_mem_cons.mpr ⟨xfX6_13, List.forall_mem_cons.mpr ⟨xfX6_16, List.forall_mem_cons.mpr ⟨xfX6_19, List.forall_mem_cons.mpr ⟨xfX6_22, List.forall_mem_cons.mpr ⟨xfX6_25, List.forall_mem_cons.mpr ⟨xfX6_28, List.forall_mem_cons.mpr ⟨xfX6_64, List.forall_mem_cons.mpr ⟨xfX6_103, List.forall_mem_cons.mpr ⟨xfX6_31, List.forall_mem_cons.mpr ⟨xfX6_35, List.forall_mem_cons.mpr ⟨xfX6_38, List.forall_mem_cons.mpr ⟨xfX6_41, List.forall_mem_cons.mpr ⟨xfX6_44, List.forall_mem_cons.mpr ⟨xfX6_71, List.forall_mem_cons.mpr ⟨xfX6_78, List.forall_mem_cons.mpr ⟨xfX6_97, List.forall_mem_cons.mpr ⟨xfX6_47, List.forall_mem_cons.mpr ⟨xfX6_131, List.forall_mem_cons.mpr ⟨xfX6_117, List.forall_mem_cons.mpr ⟨xfX6_121, List.forall_mem_cons.mpr ⟨xfX6_170, List.forall_mem_cons.mpr ⟨xfX6_173, List.forall_mem_cons.mpr ⟨xfX6_176, List.forall_mem_cons.mpr ⟨xfX6_179, List.forall_mem_cons.mpr ⟨xfX6_182, List.forall_mem_cons.mpr ⟨xfX6_185, List.forall_mem_cons.mpr ⟨xfX6_50, List.forall_mem_cons.mpr ⟨xfX6_53, List.forall_mem_cons.mpr ⟨xfX6_56, List.forall_mem_cons.mpr ⟨xfX6_59, List.forall_mem_cons.mpr ⟨xfX6_230, fun _ h => absurd h List.not_mem_nil⟩⟩⟩⟩⟩⟩⟩⟩⟩⟩⟩⟩⟩⟩⟩⟩⟩⟩⟩⟩⟩⟩⟩⟩⟩⟩⟩⟩⟩⟩⟩⟩, List.forall_mem_cons.mpr ⟨xT_in 794 (by rfl) rfl, List.forall_mem_cons.mpr ⟨xT_in 844 (by rfl) rfl, List.forall_mem_cons.mpr ⟨xT_in 945 (by rfl) rfl, List.forall_mem_cons.mpr ⟨xT_in 946 (by rfl) rfl, List.forall_mem_cons.mpr ⟨xT_in 947 (by rfl) rfl, fun _ h => absurd h List.not_mem_nil⟩⟩⟩⟩⟩, List.forall_mem_cons.mpr ⟨xT_in 905 (by rfl) rfl, List.forall_mem_cons.mpr ⟨xT_in 906 (by rfl) rfl, fun _ h => absurd h List.not_mem_nil⟩⟩, List.forall_mem_cons.mpr ⟨xlX6_67, List.forall_mem_cons.mpr ⟨xlX6_74, List.forall_mem_cons.mpr ⟨xlX6_106, List.forall_mem_cons.mpr ⟨xlX6_81, List.forall_mem_cons.mpr ⟨xlX6_100, List.forall_mem_cons.mpr ⟨xlX6_89, List.forall_mem_cons.mpr ⟨xlX6_85, List.forall_mem_cons.mpr ⟨xlX6_93, List.forall_mem_cons.mpr ⟨xlX6_110, List.forall_mem_cons.mpr ⟨xlX6_124, List.forall_mem_cons.mpr ⟨xlX6_128, List.forall_mem_cons.mpr ⟨xlX6_114, List.forall_mem_cons.mpr ⟨xlX6_148, List.forall_mem_cons.mpr ⟨xlX6_145, List.forall_mem_cons.mpr ⟨xlX6_134, List.forall_mem_cons.mpr ⟨xlX6_137, List.forall_mem_cons.mpr ⟨xlX6_141, List.forall_mem_cons.mpr ⟨xlX6_151, List.forall_mem_cons.mpr ⟨xlX6_154, List.forall_mem_cons.mpr ⟨xlX6_160, List.forall_mem_cons.mpr ⟨xlX6_157, List.forall_mem_cons.mpr ⟨xlX6_163, List.forall_mem_cons.mpr ⟨xlX6_167, List.forall_mem_cons.mpr ⟨xlX6_195, List.forall_mem_cons.mpr ⟨xlX6_188, List.forall_mem_cons.mpr ⟨xlX6_192, List.forall_mem_cons.mpr ⟨xlX6_199, List.forall_mem_cons.mpr ⟨xlX6_202, List.forall_mem_cons.mpr ⟨xlX6_206, List.forall_mem_cons.mpr ⟨xlX6_212, List.forall_mem_cons.mpr ⟨xlX6_223, List.forall_mem_cons.mpr ⟨xlX6_216, List.forall_mem_cons.mpr ⟨xlX6_219, List.forall_mem_cons.mpr ⟨xlX6_226, List.forall_mem_cons.mpr ⟨xlX6_233, fun _ h => absurd h List.not_mem_nil⟩⟩⟩⟩⟩⟩⟩⟩⟩⟩⟩⟩⟩⟩⟩⟩⟩⟩⟩⟩⟩⟩⟩⟩⟩⟩⟩⟩⟩⟩⟩⟩⟩⟩⟩⟩
set_option maxRecDepth 100000 in
theorem oX0_mirrored : xMOk xTs xnl xMs mX0_mirrored := ⟨by decide +kernel, xT_in 325 (by rfl) rfl, by decide, by decide +kernel, rfl, xT_in 56 (by rfl) rfl, fun _ => xT_in 324 (by rfl) rfl, fun h => absurd h (by decide), ⟨by decide +kernel, by decide +kernel⟩, okX0⟩
set_option maxRecDepth 100000 in
theorem oX0_flipped : xMOk xTs xnl xMs mX0_flipped := ⟨by decide +kernel, xT_in 330 (by rfl) rfl, by decide, by decide +kernel, rfl, xT_in 56 (by rfl) rfl, fun _ => xT_in 329 (by rfl) rfl, fun h => absurd h (by decide), ⟨by decide +kernel, by decide +kernel⟩, okX0⟩
set_option maxRecDepth 100000 in
theorem oX0_shifted : xMOk xTs xnl xMs mX0_shifted := ⟨by decide +kernel, xT_in 340 (by rfl) rfl, by decide, by decide +kernel, rfl, xT_in 56 (by rfl) rfl, fun _ => xT_in 339 (by rfl) rfl, fun h => absurd h (by decide), ⟨by decide +kernel, by decide +kernel⟩, okX0⟩
set_option maxRecDepth 100000 in
theorem oX0_grown : xMOk xTs xnl xMs mX0_grown := ⟨by decide +kernel, xT_in 425 (by rfl) rfl, by decide, by decide +kernel, rfl, xT_in 56 (by rfl) rfl, fun _ => xT_in 424 (by rfl) rfl, fun h => absurd h (by decide), ⟨by decide +kernel, by decide +kernel⟩, okX0⟩
set_option maxRecDepth 100000 in
theorem oX0_groups : xMOk xTs xnl xMs mX0_groups := ⟨by decide +kernel, xT_in 422 (by rfl) rfl, by decide, by decide +kernel, rfl, xT_in 56 (by rfl) rfl, fun _ => xT_in 421 (by rfl) rfl, fun h => absurd h (by decide), ⟨by decide +kernel, by decide +kernel⟩, okX0⟩
set_option maxRecDepth 100000 in
theorem oX1_becomes : xMOk xTs xnl xMs mX1_becomes := ⟨by decide +kernel, xT_in 255 (by rfl) rfl, by decide, by decide +kernel, rfl, xT_in 51 (by rfl) rfl, fun h => absurd h (by decide), fun _ => ⟨xT_in 253 (by rfl) rfl, xT_in 254 (by rfl) rfl⟩, ⟨by decide +kernel, by decide +kernel⟩, okX1⟩
set_option maxRecDepth 100000 in
theorem oX1_addsSlide : xMOk xTs xnl xMs mX1_addsSlide := ⟨by decide +kernel, xT_in 283 (by rfl) rfl, by decide, by decide +kernel, rfl, xT_in 51 (by rfl) rfl, fun h => absurd h (by decide), fun _ => ⟨xT_in 281 (by rfl) rfl, xT_in 282 (by rfl) rfl⟩, ⟨by decide +kernel, by decide +kernel⟩, okX1⟩
set_option maxRecDepth 100000 in
theorem oX1_addsWanted : xMOk xTs xnl xMs mX1_addsWanted := ⟨by decide +kernel, xT_in 287 (by rfl) rfl, by decide, by decide +kernel, rfl, xT_in 51 (by rfl) rfl, fun h => absurd h (by decide), fun _ => ⟨xT_in 285 (by rfl) rfl, xT_in 286 (by rfl) rfl⟩, ⟨by decide +kernel, by decide +kernel⟩, okX1⟩
set_option maxRecDepth 100000 in
theorem oX1_heats : xMOk xTs xnl xMs mX1_heats := ⟨by decide +kernel, xT_in 291 (by rfl) rfl, by decide, by decide +kernel, rfl, xT_in 51 (by rfl) rfl, fun h => absurd h (by decide), fun _ => ⟨xT_in 289 (by rfl) rfl, xT_in 290 (by rfl) rfl⟩, ⟨by decide +kernel, by decide +kernel⟩, okX1⟩
set_option maxRecDepth 100000 in
theorem oX1_has : xMOk xTs xnl xMs mX1_has := ⟨by decide +kernel, xT_in 307 (by rfl) rfl, by decide, by decide +kernel, rfl, xT_in 51 (by rfl) rfl, fun h => absurd h (by decide), fun _ => ⟨xT_in 305 (by rfl) rfl, xT_in 306 (by rfl) rfl⟩, ⟨by decide +kernel, by decide +kernel⟩, okX1⟩
set_option maxRecDepth 100000 in
theorem oX1_hasAll : xMOk xTs xnl xMs mX1_hasAll := ⟨by decide +kernel, xT_in 379 (by rfl) rfl, by decide, by decide +kernel, rfl, xT_in 51 (by rfl) rfl, fun h => absurd h (by decide), fun _ => ⟨xT_in 377 (by rfl) rfl, xT_in 378 (by rfl) rfl⟩, ⟨by decide +kernel, by decide +kernel⟩, okX1⟩
set_option maxRecDepth 100000 in
theorem oX1_hasWanted : xMOk xTs xnl xMs mX1_hasWanted := ⟨by decide +kernel, xT_in 350 (by rfl) rfl, by decide, by decide +kernel, rfl, xT_in 51 (by rfl) rfl, fun h => absurd h (by decide), fun _ => ⟨xT_in 348 (by rfl) rfl, xT_in 349 (by rfl) rfl⟩, ⟨by decide +kernel, by decide +kernel⟩, okX1⟩
set_option maxRecDepth 100000 in
theorem oJ6_bitCount_0f7a4 : xMOk xTs xnl xMs mJ6_bitCount_0f7a4 := ⟨by decide +kernel, xT_in 395 (by rfl) rfl, by decide, by decide +kernel, rfl, xT_in 57 (by rfl) rfl, fun _ => xT_in 394 (by rfl) rfl, fun h => absurd h (by decide), ⟨by decide +kernel, by decide +kernel⟩, okJ6⟩
set_option maxRecDepth 100000 in
theorem oX1_isProjectable : xMOk xTs xnl xMs mX1_isProjectable := ⟨by decide +kernel, xT_in 391 (by rfl) rfl, by decide, by decide +kernel, rfl, xT_in 51 (by rfl) rfl, fun h => absurd h (by decide), fun _ => ⟨xT_in 389 (by rfl) rfl, xT_in 390 (by rfl) rfl⟩, ⟨by decide +kernel, by decide +kernel⟩, okX1⟩
set_option maxRecDepth 100000 in
theorem oX1_isWanted : xMOk xTs xnl xMs mX1_isWanted := ⟨by decide +kernel, xT_in 577 (by rfl) rfl, by decide, by decide +kernel, rfl, xT_in 51 (by rfl) rfl, fun h => absurd h (by decide), fun _ => ⟨xT_in 575 (by rfl) rfl, xT_in 576 (by rfl) rfl⟩, ⟨by decide +kernel, by decide +kernel⟩, okX1⟩
set_option maxRecDepth 100000 in
theorem oX1_wantedPicture : xMOk xTs xnl xMs mX1_wantedPicture := ⟨by decide +kernel, xT_in 354 (by rfl) rfl, by decide, by decide +kernel, rfl, xT_in 51 (by rfl) rfl, fun h => absurd h (by decide), fun _ => ⟨xT_in 352 (by rfl) rfl, xT_in 353 (by rfl) rfl⟩, ⟨by decide +kernel, by decide +kernel⟩, okX1⟩
set_option maxRecDepth 100000 in
theorem oX1_cracked : xMOk xTs xnl xMs mX1_cracked := ⟨by decide +kernel, xT_in 337 (by rfl) rfl, by decide, by decide +kernel, rfl, xT_in 51 (by rfl) rfl, fun h => absurd h (by decide), fun _ => ⟨xT_in 336 (by rfl) rfl, xT_in 7 (by rfl) rfl⟩, ⟨by decide +kernel, by decide +kernel⟩, okX1⟩
set_option maxRecDepth 100000 in
theorem oX1_onSlide : xMOk xTs xnl xMs mX1_onSlide := ⟨by decide +kernel, xT_in 322 (by rfl) rfl, by decide, by decide +kernel, rfl, xT_in 51 (by rfl) rfl, fun h => absurd h (by decide), fun _ => ⟨xT_in 320 (by rfl) rfl, xT_in 321 (by rfl) rfl⟩, ⟨by decide +kernel, by decide +kernel⟩, okX1⟩
set_option maxRecDepth 100000 in
theorem oX1_told : xMOk xTs xnl xMs mX1_told := ⟨by decide +kernel, xT_in 317 (by rfl) rfl, by decide, by decide +kernel, rfl, xT_in 51 (by rfl) rfl, fun h => absurd h (by decide), fun _ => ⟨xT_in 315 (by rfl) rfl, xT_in 316 (by rfl) rfl⟩, ⟨by decide +kernel, by decide +kernel⟩, okX1⟩
set_option maxRecDepth 100000 in
theorem oX1_repriced : xMOk xTs xnl xMs mX1_repriced := ⟨by decide +kernel, xT_in 367 (by rfl) rfl, by decide, by decide +kernel, rfl, xT_in 51 (by rfl) rfl, fun h => absurd h (by decide), fun _ => ⟨xT_in 365 (by rfl) rfl, xT_in 366 (by rfl) rfl⟩, ⟨by decide +kernel, by decide +kernel⟩, okX1⟩
set_option maxRecDepth 100000 in
theorem oX1_laid : xMOk xTs xnl xMs mX1_laid := ⟨by decide +kernel, xT_in 383 (by rfl) rfl, by decide, by decide +kernel, rfl, xT_in 51 (by rfl) rfl, fun h => absurd h (by decide), fun _ => ⟨xT_in 381 (by rfl) rfl, xT_in 382 (by rfl) rfl⟩, ⟨by decide +kernel, by decide +kernel⟩, okX1⟩
set_option maxRecDepth 100000 in
theorem oX1_wear : xMOk xTs xnl xMs mX1_wear := ⟨by decide +kernel, xT_in 407 (by rfl) rfl, by decide, by decide +kernel, rfl, xT_in 51 (by rfl) rfl, fun h => absurd h (by decide), fun _ => ⟨xT_in 406 (by rfl) rfl, xT_in 9 (by rfl) rfl⟩, ⟨by decide +kernel, by decide +kernel⟩, okX1⟩
set_option maxRecDepth 100000 in
theorem oX1_projected : xMOk xTs xnl xMs mX1_projected := ⟨by decide +kernel, xT_in 402 (by rfl) rfl, by decide, by decide +kernel, rfl, xT_in 51 (by rfl) rfl, fun h => absurd h (by decide), fun _ => ⟨xT_in 400 (by rfl) rfl, xT_in 401 (by rfl) rfl⟩, ⟨by decide +kernel, by decide +kernel⟩, okX1⟩
set_option maxRecDepth 100000 in
theorem oX1_nearestWanted : xMOk xTs xnl xMs mX1_nearestWanted := ⟨by decide +kernel, xT_in 433 (by rfl) rfl, by decide, by decide +kernel, rfl, xT_in 51 (by rfl) rfl, fun h => absurd h (by decide), fun _ => ⟨xT_in 431 (by rfl) rfl, xT_in 432 (by rfl) rfl⟩, ⟨by decide +kernel, by decide +kernel⟩, okX1⟩
set_option maxRecDepth 100000 in
theorem oX1_cracksToShow : xMOk xTs xnl xMs mX1_cracksToShow := ⟨by decide +kernel, xT_in 521 (by rfl) rfl, by decide, by decide +kernel, rfl, xT_in 51 (by rfl) rfl, fun h => absurd h (by decide), fun _ => ⟨xT_in 519 (by rfl) rfl, xT_in 520 (by rfl) rfl⟩, ⟨by decide +kernel, by decide +kernel⟩, okX1⟩
set_option maxRecDepth 100000 in
theorem oX1_allUses : xMOk xTs xnl xMs mX1_allUses := ⟨by decide +kernel, xT_in 606 (by rfl) rfl, by decide, by decide +kernel, rfl, xT_in 51 (by rfl) rfl, fun h => absurd h (by decide), fun _ => ⟨xT_in 604 (by rfl) rfl, xT_in 605 (by rfl) rfl⟩, ⟨by decide +kernel, by decide +kernel⟩, okX1⟩
set_option maxRecDepth 100000 in
theorem oX1_allPrices : xMOk xTs xnl xMs mX1_allPrices := ⟨by decide +kernel, xT_in 610 (by rfl) rfl, by decide, by decide +kernel, rfl, xT_in 51 (by rfl) rfl, fun h => absurd h (by decide), fun _ => ⟨xT_in 608 (by rfl) rfl, xT_in 609 (by rfl) rfl⟩, ⟨by decide +kernel, by decide +kernel⟩, okX1⟩
set_option maxRecDepth 100000 in
theorem oX2_isFull : xMOk xTs xnl xMs mX2_isFull := ⟨by decide +kernel, xT_in 225 (by rfl) rfl, by decide, by decide +kernel, rfl, xT_in 52 (by rfl) rfl, fun h => absurd h (by decide), fun _ => ⟨xT_in 223 (by rfl) rfl, xT_in 224 (by rfl) rfl⟩, ⟨by decide +kernel, by decide +kernel⟩, okX2⟩
set_option maxRecDepth 100000 in
theorem oX2_taken : xMOk xTs xnl xMs mX2_taken := ⟨by decide +kernel, xT_in 233 (by rfl) rfl, by decide, by decide +kernel, rfl, xT_in 52 (by rfl) rfl, fun h => absurd h (by decide), fun _ => ⟨xT_in 231 (by rfl) rfl, xT_in 232 (by rfl) rfl⟩, ⟨by decide +kernel, by decide +kernel⟩, okX2⟩
set_option maxRecDepth 100000 in
theorem oX2_forget : xMOk xTs xnl xMs mX2_forget := ⟨by decide +kernel, xT_in 295 (by rfl) rfl, by decide, by decide +kernel, rfl, xT_in 52 (by rfl) rfl, fun h => absurd h (by decide), fun _ => ⟨xT_in 293 (by rfl) rfl, xT_in 294 (by rfl) rfl⟩, ⟨by decide +kernel, by decide +kernel⟩, okX2⟩
set_option maxRecDepth 100000 in
theorem oX2_stateOpened : xMOk xTs xnl xMs mX2_stateOpened := ⟨by decide +kernel, xT_in 248 (by rfl) rfl, by decide, by decide +kernel, rfl, xT_in 52 (by rfl) rfl, fun _ => xT_in 247 (by rfl) rfl, fun h => absurd h (by decide), ⟨by decide +kernel, by decide +kernel⟩, okX2⟩
set_option maxRecDepth 100000 in
theorem oX2_isDigit : xMOk xTs xnl xMs mX2_isDigit := ⟨by decide +kernel, xT_in 251 (by rfl) rfl, by decide, by decide +kernel, rfl, xT_in 52 (by rfl) rfl, fun _ => xT_in 250 (by rfl) rfl, fun h => absurd h (by decide), ⟨by decide +kernel, by decide +kernel⟩, okX2⟩
set_option maxRecDepth 100000 in
theorem oX2_stateBehind : xMOk xTs xnl xMs mX2_stateBehind := ⟨by decide +kernel, xT_in 245 (by rfl) rfl, by decide, by decide +kernel, rfl, xT_in 52 (by rfl) rfl, fun _ => xT_in 244 (by rfl) rfl, fun h => absurd h (by decide), ⟨by decide +kernel, by decide +kernel⟩, okX2⟩
set_option maxRecDepth 100000 in
theorem oX2_fault : xMOk xTs xnl xMs mX2_fault := ⟨by decide +kernel, xT_in 242 (by rfl) rfl, by decide, by decide +kernel, rfl, xT_in 52 (by rfl) rfl, fun h => absurd h (by decide), fun _ => ⟨xT_in 240 (by rfl) rfl, xT_in 241 (by rfl) rfl⟩, ⟨by decide +kernel, by decide +kernel⟩, okX2⟩
set_option maxRecDepth 100000 in
theorem oX2_signAt : xMOk xTs xnl xMs mX2_signAt := ⟨by decide +kernel, xT_in 267 (by rfl) rfl, by decide, by decide +kernel, rfl, xT_in 52 (by rfl) rfl, fun h => absurd h (by decide), fun _ => ⟨xT_in 266 (by rfl) rfl, xT_in 2 (by rfl) rfl⟩, ⟨by decide +kernel, by decide +kernel⟩, okX2⟩
set_option maxRecDepth 100000 in
theorem oX2_digit : xMOk xTs xnl xMs mX2_digit := ⟨by decide +kernel, xT_in 275 (by rfl) rfl, by decide, by decide +kernel, rfl, xT_in 52 (by rfl) rfl, fun h => absurd h (by decide), fun _ => ⟨xT_in 274 (by rfl) rfl, xT_in 4 (by rfl) rfl⟩, ⟨by decide +kernel, by decide +kernel⟩, okX2⟩
set_option maxRecDepth 100000 in
theorem oX2_number : xMOk xTs xnl xMs mX2_number := ⟨by decide +kernel, xT_in 271 (by rfl) rfl, by decide, by decide +kernel, rfl, xT_in 52 (by rfl) rfl, fun h => absurd h (by decide), fun _ => ⟨xT_in 270 (by rfl) rfl, xT_in 3 (by rfl) rfl⟩, ⟨by decide +kernel, by decide +kernel⟩, okX2⟩
set_option maxRecDepth 100000 in
theorem oX2_pictureBefore : xMOk xTs xnl xMs mX2_pictureBefore := ⟨by decide +kernel, xT_in 279 (by rfl) rfl, by decide, by decide +kernel, rfl, xT_in 52 (by rfl) rfl, fun h => absurd h (by decide), fun _ => ⟨xT_in 278 (by rfl) rfl, xT_in 5 (by rfl) rfl⟩, ⟨by decide +kernel, by decide +kernel⟩, okX2⟩
set_option maxRecDepth 100000 in
theorem oX2_statementComes : xMOk xTs xnl xMs mX2_statementComes := ⟨by decide +kernel, xT_in 263 (by rfl) rfl, by decide, by decide +kernel, rfl, xT_in 52 (by rfl) rfl, fun h => absurd h (by decide), fun _ => ⟨xT_in 262 (by rfl) rfl, xT_in 1 (by rfl) rfl⟩, ⟨by decide +kernel, by decide +kernel⟩, okX2⟩
set_option maxRecDepth 100000 in
theorem oX2_toldTo : xMOk xTs xnl xMs mX2_toldTo := ⟨by decide +kernel, xT_in 259 (by rfl) rfl, by decide, by decide +kernel, rfl, xT_in 52 (by rfl) rfl, fun h => absurd h (by decide), fun _ => ⟨xT_in 257 (by rfl) rfl, xT_in 258 (by rfl) rfl⟩, ⟨by decide +kernel, by decide +kernel⟩, okX2⟩
set_option maxRecDepth 100000 in
theorem oX3_usable : xMOk xTs xnl xMs mX3_usable := ⟨by decide +kernel, xT_in 450 (by rfl) rfl, by decide, by decide +kernel, rfl, xT_in 53 (by rfl) rfl, fun _ => xT_in 449 (by rfl) rfl, fun h => absurd h (by decide), ⟨by decide +kernel, by decide +kernel⟩, okX3⟩
set_option maxRecDepth 100000 in
theorem oX3_dark : xMOk xTs xnl xMs mX3_dark := ⟨by decide +kernel, xT_in 454 (by rfl) rfl, by decide, by decide +kernel, rfl, xT_in 53 (by rfl) rfl, fun _ => xT_in 453 (by rfl) rfl, fun h => absurd h (by decide), ⟨by decide +kernel, by decide +kernel⟩, okX3⟩
set_option maxRecDepth 100000 in
theorem oX3_load : xMOk xTs xnl xMs mX3_load := ⟨by decide +kernel, xT_in 445 (by rfl) rfl, by decide, by decide +kernel, rfl, xT_in 53 (by rfl) rfl, fun h => absurd h (by decide), fun _ => ⟨xT_in 444 (by rfl) rfl, xT_in 10 (by rfl) rfl⟩, ⟨by decide +kernel, by decide +kernel⟩, okX3⟩
set_option maxRecDepth 100000 in
theorem oX3_isOutOfReach : xMOk xTs xnl xMs mX3_isOutOfReach := ⟨by decide +kernel, xT_in 462 (by rfl) rfl, by decide, by decide +kernel, rfl, xT_in 53 (by rfl) rfl, fun h => absurd h (by decide), fun _ => ⟨xT_in 461 (by rfl) rfl, xT_in 12 (by rfl) rfl⟩, ⟨by decide +kernel, by decide +kernel⟩, okX3⟩
set_option maxRecDepth 100000 in
theorem oX3_noteFewest : xMOk xTs xnl xMs mX3_noteFewest := ⟨by decide +kernel, xT_in 467 (by rfl) rfl, by decide, by decide +kernel, rfl, xT_in 53 (by rfl) rfl, fun h => absurd h (by decide), fun _ => ⟨xT_in 466 (by rfl) rfl, xT_in 13 (by rfl) rfl⟩, ⟨by decide +kernel, by decide +kernel⟩, okX3⟩
set_option maxRecDepth 100000 in
theorem oX3_seekFewest : xMOk xTs xnl xMs mX3_seekFewest := ⟨by decide +kernel, xT_in 458 (by rfl) rfl, by decide, by decide +kernel, rfl, xT_in 53 (by rfl) rfl, fun h => absurd h (by decide), fun _ => ⟨xT_in 457 (by rfl) rfl, xT_in 11 (by rfl) rfl⟩, ⟨by decide +kernel, by decide +kernel⟩, okX3⟩
set_option maxRecDepth 100000 in
theorem oX3_findsFewest : xMOk xTs xnl xMs mX3_findsFewest := ⟨by decide +kernel, xT_in 441 (by rfl) rfl, by decide, by decide +kernel, rfl, xT_in 53 (by rfl) rfl, fun h => absurd h (by decide), fun _ => ⟨xT_in 439 (by rfl) rfl, xT_in 440 (by rfl) rfl⟩, ⟨by decide +kernel, by decide +kernel⟩, okX3⟩
set_option maxRecDepth 100000 in
theorem oX3_seekCheapest : xMOk xTs xnl xMs mX3_seekCheapest := ⟨by decide +kernel, xT_in 479 (by rfl) rfl, by decide, by decide +kernel, rfl, xT_in 53 (by rfl) rfl, fun h => absurd h (by decide), fun _ => ⟨xT_in 478 (by rfl) rfl, xT_in 14 (by rfl) rfl⟩, ⟨by decide +kernel, by decide +kernel⟩, okX3⟩
set_option maxRecDepth 100000 in
theorem oX3_leastPrice : xMOk xTs xnl xMs mX3_leastPrice := ⟨by decide +kernel, xT_in 475 (by rfl) rfl, by decide, by decide +kernel, rfl, xT_in 53 (by rfl) rfl, fun h => absurd h (by decide), fun _ => ⟨xT_in 473 (by rfl) rfl, xT_in 474 (by rfl) rfl⟩, ⟨by decide +kernel, by decide +kernel⟩, okX3⟩
set_option maxRecDepth 100000 in
theorem oX3_seekNear : xMOk xTs xnl xMs mX3_seekNear := ⟨by decide +kernel, xT_in 492 (by rfl) rfl, by decide, by decide +kernel, rfl, xT_in 53 (by rfl) rfl, fun h => absurd h (by decide), fun _ => ⟨xT_in 491 (by rfl) rfl, xT_in 15 (by rfl) rfl⟩, ⟨by decide +kernel, by decide +kernel⟩, okX3⟩
set_option maxRecDepth 100000 in
theorem oX3_leastUnlike : xMOk xTs xnl xMs mX3_leastUnlike := ⟨by decide +kernel, xT_in 487 (by rfl) rfl, by decide, by decide +kernel, rfl, xT_in 53 (by rfl) rfl, fun h => absurd h (by decide), fun _ => ⟨xT_in 485 (by rfl) rfl, xT_in 486 (by rfl) rfl⟩, ⟨by decide +kernel, by decide +kernel⟩, okX3⟩
set_option maxRecDepth 100000 in
theorem oX3_isShown : xMOk xTs xnl xMs mX3_isShown := ⟨by decide +kernel, xT_in 505 (by rfl) rfl, by decide, by decide +kernel, rfl, xT_in 53 (by rfl) rfl, fun h => absurd h (by decide), fun _ => ⟨xT_in 504 (by rfl) rfl, xT_in 16 (by rfl) rfl⟩, ⟨by decide +kernel, by decide +kernel⟩, okX3⟩
set_option maxRecDepth 100000 in
theorem oX3_showable : xMOk xTs xnl xMs mX3_showable := ⟨by decide +kernel, xT_in 500 (by rfl) rfl, by decide, by decide +kernel, rfl, xT_in 53 (by rfl) rfl, fun h => absurd h (by decide), fun _ => ⟨xT_in 498 (by rfl) rfl, xT_in 499 (by rfl) rfl⟩, ⟨by decide +kernel, by decide +kernel⟩, okX3⟩
set_option maxRecDepth 100000 in
theorem oX4_layAll : xMOk xTs xnl xMs mX4_layAll := ⟨by decide +kernel, xT_in 542 (by rfl) rfl, by decide, by decide +kernel, rfl, xT_in 54 (by rfl) rfl, fun h => absurd h (by decide), fun _ => ⟨xT_in 541 (by rfl) rfl, xT_in 17 (by rfl) rfl⟩, ⟨by decide +kernel, by decide +kernel⟩, okX4⟩
set_option maxRecDepth 100000 in
theorem oX4_isShownByOne : xMOk xTs xnl xMs mX4_isShownByOne := ⟨by decide +kernel, xT_in 552 (by rfl) rfl, by decide, by decide +kernel, rfl, xT_in 54 (by rfl) rfl, fun h => absurd h (by decide), fun _ => ⟨xT_in 551 (by rfl) rfl, xT_in 19 (by rfl) rfl⟩, ⟨by decide +kernel, by decide +kernel⟩, okX4⟩
set_option maxRecDepth 100000 in
theorem oX4_findStops : xMOk xTs xnl xMs mX4_findStops := ⟨by decide +kernel, xT_in 547 (by rfl) rfl, by decide, by decide +kernel, rfl, xT_in 54 (by rfl) rfl, fun h => absurd h (by decide), fun _ => ⟨xT_in 546 (by rfl) rfl, xT_in 18 (by rfl) rfl⟩, ⟨by decide +kernel, by decide +kernel⟩, okX4⟩
set_option maxRecDepth 100000 in
theorem oX4_arrive : xMOk xTs xnl xMs mX4_arrive := ⟨by decide +kernel, xT_in 557 (by rfl) rfl, by decide, by decide +kernel, rfl, xT_in 54 (by rfl) rfl, fun h => absurd h (by decide), fun _ => ⟨xT_in 556 (by rfl) rfl, xT_in 20 (by rfl) rfl⟩, ⟨by decide +kernel, by decide +kernel⟩, okX4⟩
set_option maxRecDepth 100000 in
theorem oX4_walk : xMOk xTs xnl xMs mX4_walk := ⟨by decide +kernel, xT_in 561 (by rfl) rfl, by decide, by decide +kernel, rfl, xT_in 54 (by rfl) rfl, fun h => absurd h (by decide), fun _ => ⟨xT_in 560 (by rfl) rfl, xT_in 21 (by rfl) rfl⟩, ⟨by decide +kernel, by decide +kernel⟩, okX4⟩
set_option maxRecDepth 100000 in
theorem oX4_leastSteps : xMOk xTs xnl xMs mX4_leastSteps := ⟨by decide +kernel, xT_in 565 (by rfl) rfl, by decide, by decide +kernel, rfl, xT_in 54 (by rfl) rfl, fun h => absurd h (by decide), fun _ => ⟨xT_in 564 (by rfl) rfl, xT_in 22 (by rfl) rfl⟩, ⟨by decide +kernel, by decide +kernel⟩, okX4⟩
set_option maxRecDepth 100000 in
theorem oX4_leastCost : xMOk xTs xnl xMs mX4_leastCost := ⟨by decide +kernel, xT_in 537 (by rfl) rfl, by decide, by decide +kernel, rfl, xT_in 54 (by rfl) rfl, fun h => absurd h (by decide), fun _ => ⟨xT_in 535 (by rfl) rfl, xT_in 536 (by rfl) rfl⟩, ⟨by decide +kernel, by decide +kernel⟩, okX4⟩
set_option maxRecDepth 100000 in
theorem oX5_wrongNumber : xMOk xTs xnl xMs mX5_wrongNumber := ⟨by decide +kernel, xT_in 221 (by rfl) rfl, by decide, by decide +kernel, rfl, xT_in 50 (by rfl) rfl, fun _ => xT_in 220 (by rfl) rfl, fun h => absurd h (by decide), ⟨by decide +kernel, by decide +kernel⟩, okX5⟩
set_option maxRecDepth 100000 in
theorem oX5_refused : xMOk xTs xnl xMs mX5_refused := ⟨by decide +kernel, xT_in 229 (by rfl) rfl, by decide, by decide +kernel, rfl, xT_in 50 (by rfl) rfl, fun h => absurd h (by decide), fun _ => ⟨xT_in 228 (by rfl) rfl, xT_in 0 (by rfl) rfl⟩, ⟨by decide +kernel, by decide +kernel⟩, okX5⟩
set_option maxRecDepth 100000 in
theorem oX5_feed : xMOk xTs xnl xMs mX5_feed := ⟨by decide +kernel, xT_in 218 (by rfl) rfl, by decide, by decide +kernel, rfl, xT_in 50 (by rfl) rfl, fun h => absurd h (by decide), fun _ => ⟨xT_in 216 (by rfl) rfl, xT_in 217 (by rfl) rfl⟩, ⟨by decide +kernel, by decide +kernel⟩, okX5⟩
set_option maxRecDepth 100000 in
theorem oX5_lantern : xMOk xTs xnl xMs mX5_lantern := ⟨by decide +kernel, xT_in 238 (by rfl) rfl, by decide, by decide +kernel, rfl, xT_in 50 (by rfl) rfl, fun h => absurd h (by decide), fun _ => ⟨xT_in 236 (by rfl) rfl, xT_in 237 (by rfl) rfl⟩, ⟨by decide +kernel, by decide +kernel⟩, okX5⟩
set_option maxRecDepth 100000 in
theorem oX5_wrongSlide : xMOk xTs xnl xMs mX5_wrongSlide := ⟨by decide +kernel, xT_in 303 (by rfl) rfl, by decide, by decide +kernel, rfl, xT_in 50 (by rfl) rfl, fun h => absurd h (by decide), fun _ => ⟨xT_in 302 (by rfl) rfl, xT_in 6 (by rfl) rfl⟩, ⟨by decide +kernel, by decide +kernel⟩, okX5⟩
set_option maxRecDepth 100000 in
theorem oX5_wrongWhat : xMOk xTs xnl xMs mX5_wrongWhat := ⟨by decide +kernel, xT_in 310 (by rfl) rfl, by decide, by decide +kernel, rfl, xT_in 50 (by rfl) rfl, fun _ => xT_in 309 (by rfl) rfl, fun h => absurd h (by decide), ⟨by decide +kernel, by decide +kernel⟩, okX5⟩
set_option maxRecDepth 100000 in
theorem oX5_first : xMOk xTs xnl xMs mX5_first := ⟨by decide +kernel, xT_in 313 (by rfl) rfl, by decide, by decide +kernel, rfl, xT_in 50 (by rfl) rfl, fun _ => xT_in 312 (by rfl) rfl, fun h => absurd h (by decide), ⟨by decide +kernel, by decide +kernel⟩, okX5⟩
set_option maxRecDepth 100000 in
theorem oX5_slide : xMOk xTs xnl xMs mX5_slide := ⟨by decide +kernel, xT_in 299 (by rfl) rfl, by decide, by decide +kernel, rfl, xT_in 50 (by rfl) rfl, fun h => absurd h (by decide), fun _ => ⟨xT_in 297 (by rfl) rfl, xT_in 298 (by rfl) rfl⟩, ⟨by decide +kernel, by decide +kernel⟩, okX5⟩
set_option maxRecDepth 100000 in
theorem oX5_wanted : xMOk xTs xnl xMs mX5_wanted := ⟨by decide +kernel, xT_in 346 (by rfl) rfl, by decide, by decide +kernel, rfl, xT_in 50 (by rfl) rfl, fun h => absurd h (by decide), fun _ => ⟨xT_in 344 (by rfl) rfl, xT_in 345 (by rfl) rfl⟩, ⟨by decide +kernel, by decide +kernel⟩, okX5⟩
set_option maxRecDepth 100000 in
theorem oX5_heat : xMOk xTs xnl xMs mX5_heat := ⟨by decide +kernel, xT_in 359 (by rfl) rfl, by decide, by decide +kernel, rfl, xT_in 50 (by rfl) rfl, fun h => absurd h (by decide), fun _ => ⟨xT_in 357 (by rfl) rfl, xT_in 358 (by rfl) rfl⟩, ⟨by decide +kernel, by decide +kernel⟩, okX5⟩
set_option maxRecDepth 100000 in
theorem oX5_price : xMOk xTs xnl xMs mX5_price := ⟨by decide +kernel, xT_in 363 (by rfl) rfl, by decide, by decide +kernel, rfl, xT_in 50 (by rfl) rfl, fun h => absurd h (by decide), fun _ => ⟨xT_in 361 (by rfl) rfl, xT_in 362 (by rfl) rfl⟩, ⟨by decide +kernel, by decide +kernel⟩, okX5⟩
set_option maxRecDepth 100000 in
theorem oX5_wrongSet : xMOk xTs xnl xMs mX5_wrongSet := ⟨by decide +kernel, xT_in 375 (by rfl) rfl, by decide, by decide +kernel, rfl, xT_in 50 (by rfl) rfl, fun h => absurd h (by decide), fun _ => ⟨xT_in 374 (by rfl) rfl, xT_in 8 (by rfl) rfl⟩, ⟨by decide +kernel, by decide +kernel⟩, okX5⟩
set_option maxRecDepth 100000 in
theorem oX5_lay : xMOk xTs xnl xMs mX5_lay := ⟨by decide +kernel, xT_in 371 (by rfl) rfl, by decide, by decide +kernel, rfl, xT_in 50 (by rfl) rfl, fun h => absurd h (by decide), fun _ => ⟨xT_in 369 (by rfl) rfl, xT_in 370 (by rfl) rfl⟩, ⟨by decide +kernel, by decide +kernel⟩, okX5⟩
set_option maxRecDepth 100000 in
theorem oX5_project : xMOk xTs xnl xMs mX5_project := ⟨by decide +kernel, xT_in 387 (by rfl) rfl, by decide, by decide +kernel, rfl, xT_in 50 (by rfl) rfl, fun h => absurd h (by decide), fun _ => ⟨xT_in 385 (by rfl) rfl, xT_in 386 (by rfl) rfl⟩, ⟨by decide +kernel, by decide +kernel⟩, okX5⟩
set_option maxRecDepth 100000 in
theorem oX5_wrongAsked : xMOk xTs xnl xMs mX5_wrongAsked := ⟨by decide +kernel, xT_in 417 (by rfl) rfl, by decide, by decide +kernel, rfl, xT_in 50 (by rfl) rfl, fun _ => xT_in 416 (by rfl) rfl, fun h => absurd h (by decide), ⟨by decide +kernel, by decide +kernel⟩, okX5⟩
set_option maxRecDepth 100000 in
theorem oX5_gaps : xMOk xTs xnl xMs mX5_gaps := ⟨by decide +kernel, xT_in 414 (by rfl) rfl, by decide, by decide +kernel, rfl, xT_in 50 (by rfl) rfl, fun h => absurd h (by decide), fun _ => ⟨xT_in 412 (by rfl) rfl, xT_in 413 (by rfl) rfl⟩, ⟨by decide +kernel, by decide +kernel⟩, okX5⟩
set_option maxRecDepth 100000 in
theorem oX5_nearest : xMOk xTs xnl xMs mX5_nearest := ⟨by decide +kernel, xT_in 429 (by rfl) rfl, by decide, by decide +kernel, rfl, xT_in 50 (by rfl) rfl, fun h => absurd h (by decide), fun _ => ⟨xT_in 427 (by rfl) rfl, xT_in 428 (by rfl) rfl⟩, ⟨by decide +kernel, by decide +kernel⟩, okX5⟩
set_option maxRecDepth 100000 in
theorem oX5_fewest : xMOk xTs xnl xMs mX5_fewest := ⟨by decide +kernel, xT_in 437 (by rfl) rfl, by decide, by decide +kernel, rfl, xT_in 50 (by rfl) rfl, fun h => absurd h (by decide), fun _ => ⟨xT_in 435 (by rfl) rfl, xT_in 436 (by rfl) rfl⟩, ⟨by decide +kernel, by decide +kernel⟩, okX5⟩
set_option maxRecDepth 100000 in
theorem oX5_cheapest : xMOk xTs xnl xMs mX5_cheapest := ⟨by decide +kernel, xT_in 471 (by rfl) rfl, by decide, by decide +kernel, rfl, xT_in 50 (by rfl) rfl, fun h => absurd h (by decide), fun _ => ⟨xT_in 469 (by rfl) rfl, xT_in 470 (by rfl) rfl⟩, ⟨by decide +kernel, by decide +kernel⟩, okX5⟩
set_option maxRecDepth 100000 in
theorem oX5_near : xMOk xTs xnl xMs mX5_near := ⟨by decide +kernel, xT_in 483 (by rfl) rfl, by decide, by decide +kernel, rfl, xT_in 50 (by rfl) rfl, fun h => absurd h (by decide), fun _ => ⟨xT_in 481 (by rfl) rfl, xT_in 482 (by rfl) rfl⟩, ⟨by decide +kernel, by decide +kernel⟩, okX5⟩
set_option maxRecDepth 100000 in
theorem oX5_can : xMOk xTs xnl xMs mX5_can := ⟨by decide +kernel, xT_in 496 (by rfl) rfl, by decide, by decide +kernel, rfl, xT_in 50 (by rfl) rfl, fun h => absurd h (by decide), fun _ => ⟨xT_in 494 (by rfl) rfl, xT_in 495 (by rfl) rfl⟩, ⟨by decide +kernel, by decide +kernel⟩, okX5⟩
set_option maxRecDepth 100000 in
theorem oX5_worth : xMOk xTs xnl xMs mX5_worth := ⟨by decide +kernel, xT_in 509 (by rfl) rfl, by decide, by decide +kernel, rfl, xT_in 50 (by rfl) rfl, fun h => absurd h (by decide), fun _ => ⟨xT_in 507 (by rfl) rfl, xT_in 508 (by rfl) rfl⟩, ⟨by decide +kernel, by decide +kernel⟩, okX5⟩
set_option maxRecDepth 100000 in
theorem oX5_sure : xMOk xTs xnl xMs mX5_sure := ⟨by decide +kernel, xT_in 513 (by rfl) rfl, by decide, by decide +kernel, rfl, xT_in 50 (by rfl) rfl, fun h => absurd h (by decide), fun _ => ⟨xT_in 511 (by rfl) rfl, xT_in 512 (by rfl) rfl⟩, ⟨by decide +kernel, by decide +kernel⟩, okX5⟩
set_option maxRecDepth 100000 in
theorem oX5_who : xMOk xTs xnl xMs mX5_who := ⟨by decide +kernel, xT_in 517 (by rfl) rfl, by decide, by decide +kernel, rfl, xT_in 50 (by rfl) rfl, fun h => absurd h (by decide), fun _ => ⟨xT_in 515 (by rfl) rfl, xT_in 516 (by rfl) rfl⟩, ⟨by decide +kernel, by decide +kernel⟩, okX5⟩
set_option maxRecDepth 100000 in
theorem oX5_power : xMOk xTs xnl xMs mX5_power := ⟨by decide +kernel, xT_in 529 (by rfl) rfl, by decide, by decide +kernel, rfl, xT_in 50 (by rfl) rfl, fun _ => xT_in 528 (by rfl) rfl, fun h => absurd h (by decide), ⟨by decide +kernel, by decide +kernel⟩, okX5⟩
set_option maxRecDepth 100000 in
theorem oX5_dust : xMOk xTs xnl xMs mX5_dust := ⟨by decide +kernel, xT_in 525 (by rfl) rfl, by decide, by decide +kernel, rfl, xT_in 50 (by rfl) rfl, fun h => absurd h (by decide), fun _ => ⟨xT_in 523 (by rfl) rfl, xT_in 524 (by rfl) rfl⟩, ⟨by decide +kernel, by decide +kernel⟩, okX5⟩
set_option maxRecDepth 100000 in
theorem oX5_round : xMOk xTs xnl xMs mX5_round := ⟨by decide +kernel, xT_in 533 (by rfl) rfl, by decide, by decide +kernel, rfl, xT_in 50 (by rfl) rfl, fun h => absurd h (by decide), fun _ => ⟨xT_in 531 (by rfl) rfl, xT_in 532 (by rfl) rfl⟩, ⟨by decide +kernel, by decide +kernel⟩, okX5⟩
set_option maxRecDepth 100000 in
theorem oX5_row : xMOk xTs xnl xMs mX5_row := ⟨by decide +kernel, xT_in 569 (by rfl) rfl, by decide, by decide +kernel, rfl, xT_in 50 (by rfl) rfl, fun h => absurd h (by decide), fun _ => ⟨xT_in 567 (by rfl) rfl, xT_in 568 (by rfl) rfl⟩, ⟨by decide +kernel, by decide +kernel⟩, okX5⟩
set_option maxRecDepth 100000 in
theorem oX5_judge : xMOk xTs xnl xMs mX5_judge := ⟨by decide +kernel, xT_in 573 (by rfl) rfl, by decide, by decide +kernel, rfl, xT_in 50 (by rfl) rfl, fun h => absurd h (by decide), fun _ => ⟨xT_in 571 (by rfl) rfl, xT_in 572 (by rfl) rfl⟩, ⟨by decide +kernel, by decide +kernel⟩, okX5⟩
set_option maxRecDepth 100000 in
theorem oX5_nextSeed : xMOk xTs xnl xMs mX5_nextSeed := ⟨by decide +kernel, xT_in 584 (by rfl) rfl, by decide, by decide +kernel, rfl, xT_in 50 (by rfl) rfl, fun _ => xT_in 583 (by rfl) rfl, fun h => absurd h (by decide), ⟨by decide +kernel, by decide +kernel⟩, okX5⟩
set_option maxRecDepth 100000 in
theorem oX5_drawBelow : xMOk xTs xnl xMs mX5_drawBelow := ⟨by decide +kernel, xT_in 588 (by rfl) rfl, by decide, by decide +kernel, rfl, xT_in 50 (by rfl) rfl, fun _ => xT_in 587 (by rfl) rfl, fun h => absurd h (by decide), ⟨by decide +kernel, by decide +kernel⟩, okX5⟩
set_option maxRecDepth 100000 in
theorem oX5_seeds : xMOk xTs xnl xMs mX5_seeds := ⟨by decide +kernel, xT_in 581 (by rfl) rfl, by decide, by decide +kernel, rfl, xT_in 50 (by rfl) rfl, fun h => absurd h (by decide), fun _ => ⟨xT_in 579 (by rfl) rfl, xT_in 580 (by rfl) rfl⟩, ⟨by decide +kernel, by decide +kernel⟩, okX5⟩
set_option maxRecDepth 100000 in
theorem oX5_image : xMOk xTs xnl xMs mX5_image := ⟨by decide +kernel, xT_in 594 (by rfl) rfl, by decide, by decide +kernel, rfl, xT_in 50 (by rfl) rfl, fun h => absurd h (by decide), fun _ => ⟨xT_in 592 (by rfl) rfl, xT_in 593 (by rfl) rfl⟩, ⟨by decide +kernel, by decide +kernel⟩, okX5⟩
set_option maxRecDepth 100000 in
theorem oX5_restore : xMOk xTs xnl xMs mX5_restore := ⟨by decide +kernel, xT_in 598 (by rfl) rfl, by decide, by decide +kernel, rfl, xT_in 50 (by rfl) rfl, fun h => absurd h (by decide), fun _ => ⟨xT_in 596 (by rfl) rfl, xT_in 597 (by rfl) rfl⟩, ⟨by decide +kernel, by decide +kernel⟩, okX5⟩
set_option maxRecDepth 100000 in
theorem oX5_count : xMOk xTs xnl xMs mX5_count := ⟨by decide +kernel, xT_in 602 (by rfl) rfl, by decide, by decide +kernel, rfl, xT_in 50 (by rfl) rfl, fun h => absurd h (by decide), fun _ => ⟨xT_in 600 (by rfl) rfl, xT_in 601 (by rfl) rfl⟩, ⟨by decide +kernel, by decide +kernel⟩, okX5⟩
set_option maxRecDepth 100000 in
theorem oX6_no : xMOk xTs xnl xMs mX6_no := ⟨by decide +kernel, xT_in 724 (by rfl) rfl, by decide, by decide +kernel, rfl, xT_in 55 (by rfl) rfl, fun h => absurd h (by decide), fun _ => ⟨xT_in 723 (by rfl) rfl, xT_in 23 (by rfl) rfl⟩, ⟨by decide +kernel, by decide +kernel⟩, okX6⟩
set_option maxRecDepth 100000 in
theorem oX6_lowest : xMOk xTs xnl xMs mX6_lowest := ⟨by decide +kernel, xT_in 904 (by rfl) rfl, by decide, by decide +kernel, rfl, xT_in 55 (by rfl) rfl, fun h => absurd h (by decide), fun _ => ⟨xT_in 903 (by rfl) rfl, xT_in 44 (by rfl) rfl⟩, ⟨by decide +kernel, by decide +kernel⟩, okX6⟩
set_option maxRecDepth 100000 in
theorem oX6_isIn : xMOk xTs xnl xMs mX6_isIn := ⟨by decide +kernel, xT_in 747 (by rfl) rfl, by decide, by decide +kernel, rfl, xT_in 55 (by rfl) rfl, fun _ => xT_in 746 (by rfl) rfl, fun h => absurd h (by decide), ⟨by decide +kernel, by decide +kernel⟩, okX6⟩
set_option maxRecDepth 100000 in
theorem oX6_bound : xMOk xTs xnl xMs mX6_bound := ⟨by decide +kernel, xT_in 720 (by rfl) rfl, by decide, by decide +kernel, rfl, xT_in 55 (by rfl) rfl, fun _ => xT_in 719 (by rfl) rfl, fun h => absurd h (by decide), ⟨by decide +kernel, by decide +kernel⟩, okX6⟩
set_option maxRecDepth 100000 in
theorem oX6_isSlide : xMOk xTs xnl xMs mX6_isSlide := ⟨by decide +kernel, xT_in 783 (by rfl) rfl, by decide, by decide +kernel, rfl, xT_in 55 (by rfl) rfl, fun h => absurd h (by decide), fun _ => ⟨xT_in 782 (by rfl) rfl, xT_in 33 (by rfl) rfl⟩, ⟨by decide +kernel, by decide +kernel⟩, okX6⟩
set_option maxRecDepth 100000 in
theorem oX6_areSlides : xMOk xTs xnl xMs mX6_areSlides := ⟨by decide +kernel, xT_in 817 (by rfl) rfl, by decide, by decide +kernel, rfl, xT_in 55 (by rfl) rfl, fun h => absurd h (by decide), fun _ => ⟨xT_in 816 (by rfl) rfl, xT_in 35 (by rfl) rfl⟩, ⟨by decide +kernel, by decide +kernel⟩, okX6⟩
set_option maxRecDepth 100000 in
theorem oX6_feed : xMOk xTs xnl xMs mX6_feed := ⟨by decide +kernel, xT_in 717 (by rfl) rfl, by decide, by decide +kernel, rfl, xT_in 55 (by rfl) rfl, fun h => absurd h (by decide), fun _ => ⟨xT_in 715 (by rfl) rfl, xT_in 716 (by rfl) rfl⟩, ⟨by decide +kernel, by decide +kernel⟩, okX6⟩
set_option maxRecDepth 100000 in
theorem oX6_next : xMOk xTs xnl xMs mX6_next := ⟨by decide +kernel, xT_in 736 (by rfl) rfl, by decide, by decide +kernel, rfl, xT_in 55 (by rfl) rfl, fun h => absurd h (by decide), fun _ => ⟨xT_in 735 (by rfl) rfl, xT_in 25 (by rfl) rfl⟩, ⟨by decide +kernel, by decide +kernel⟩, okX6⟩
set_option maxRecDepth 100000 in
theorem oX6_readsNumber : xMOk xTs xnl xMs mX6_readsNumber := ⟨by decide +kernel, xT_in 744 (by rfl) rfl, by decide, by decide +kernel, rfl, xT_in 55 (by rfl) rfl, fun h => absurd h (by decide), fun _ => ⟨xT_in 743 (by rfl) rfl, xT_in 27 (by rfl) rfl⟩, ⟨by decide +kernel, by decide +kernel⟩, okX6⟩
set_option maxRecDepth 100000 in
theorem oX6_readsPicture : xMOk xTs xnl xMs mX6_readsPicture := ⟨by decide +kernel, xT_in 751 (by rfl) rfl, by decide, by decide +kernel, rfl, xT_in 55 (by rfl) rfl, fun h => absurd h (by decide), fun _ => ⟨xT_in 750 (by rfl) rfl, xT_in 28 (by rfl) rfl⟩, ⟨by decide +kernel, by decide +kernel⟩, okX6⟩
set_option maxRecDepth 100000 in
theorem oX6_readsSlide : xMOk xTs xnl xMs mX6_readsSlide := ⟨by decide +kernel, xT_in 740 (by rfl) rfl, by decide, by decide +kernel, rfl, xT_in 55 (by rfl) rfl, fun h => absurd h (by decide), fun _ => ⟨xT_in 739 (by rfl) rfl, xT_in 26 (by rfl) rfl⟩, ⟨by decide +kernel, by decide +kernel⟩, okX6⟩
set_option maxRecDepth 100000 in
theorem oX6_statement : xMOk xTs xnl xMs mX6_statement := ⟨by decide +kernel, xT_in 732 (by rfl) rfl, by decide, by decide +kernel, rfl, xT_in 55 (by rfl) rfl, fun h => absurd h (by decide), fun _ => ⟨xT_in 731 (by rfl) rfl, xT_in 24 (by rfl) rfl⟩, ⟨by decide +kernel, by decide +kernel⟩, okX6⟩
set_option maxRecDepth 100000 in
theorem oX6_comes : xMOk xTs xnl xMs mX6_comes := ⟨by decide +kernel, xT_in 767 (by rfl) rfl, by decide, by decide +kernel, rfl, xT_in 55 (by rfl) rfl, fun h => absurd h (by decide), fun _ => ⟨xT_in 766 (by rfl) rfl, xT_in 32 (by rfl) rfl⟩, ⟨by decide +kernel, by decide +kernel⟩, okX6⟩
set_option maxRecDepth 100000 in
theorem oX6_passes : xMOk xTs xnl xMs mX6_passes := ⟨by decide +kernel, xT_in 759 (by rfl) rfl, by decide, by decide +kernel, rfl, xT_in 55 (by rfl) rfl, fun h => absurd h (by decide), fun _ => ⟨xT_in 758 (by rfl) rfl, xT_in 30 (by rfl) rfl⟩, ⟨by decide +kernel, by decide +kernel⟩, okX6⟩
set_option maxRecDepth 100000 in
theorem oX6_passOne : xMOk xTs xnl xMs mX6_passOne := ⟨by decide +kernel, xT_in 763 (by rfl) rfl, by decide, by decide +kernel, rfl, xT_in 55 (by rfl) rfl, fun h => absurd h (by decide), fun _ => ⟨xT_in 762 (by rfl) rfl, xT_in 31 (by rfl) rfl⟩, ⟨by decide +kernel, by decide +kernel⟩, okX6⟩
set_option maxRecDepth 100000 in
theorem oX6_passesAll : xMOk xTs xnl xMs mX6_passesAll := ⟨by decide +kernel, xT_in 755 (by rfl) rfl, by decide, by decide +kernel, rfl, xT_in 55 (by rfl) rfl, fun h => absurd h (by decide), fun _ => ⟨xT_in 754 (by rfl) rfl, xT_in 29 (by rfl) rfl⟩, ⟨by decide +kernel, by decide +kernel⟩, okX6⟩
set_option maxRecDepth 100000 in
theorem oX6_lantern : xMOk xTs xnl xMs mX6_lantern := ⟨by decide +kernel, xT_in 728 (by rfl) rfl, by decide, by decide +kernel, rfl, xT_in 55 (by rfl) rfl, fun h => absurd h (by decide), fun _ => ⟨xT_in 726 (by rfl) rfl, xT_in 727 (by rfl) rfl⟩, ⟨by decide +kernel, by decide +kernel⟩, okX6⟩
set_option maxRecDepth 100000 in
theorem oX6_image : xMOk xTs xnl xMs mX6_image := ⟨by decide +kernel, xT_in 771 (by rfl) rfl, by decide, by decide +kernel, rfl, xT_in 55 (by rfl) rfl, fun h => absurd h (by decide), fun _ => ⟨xT_in 769 (by rfl) rfl, xT_in 770 (by rfl) rfl⟩, ⟨by decide +kernel, by decide +kernel⟩, okX6⟩
set_option maxRecDepth 100000 in
theorem oX6_restore : xMOk xTs xnl xMs mX6_restore := ⟨by decide +kernel, xT_in 775 (by rfl) rfl, by decide, by decide +kernel, rfl, xT_in 55 (by rfl) rfl, fun h => absurd h (by decide), fun _ => ⟨xT_in 773 (by rfl) rfl, xT_in 774 (by rfl) rfl⟩, ⟨by decide +kernel, by decide +kernel⟩, okX6⟩
set_option maxRecDepth 100000 in
theorem oX6_bits : xMOk xTs xnl xMs mX6_bits := ⟨by decide +kernel, xT_in 832 (by rfl) rfl, by decide, by decide +kernel, rfl, xT_in 55 (by rfl) rfl, fun _ => xT_in 831 (by rfl) rfl, fun h => absurd h (by decide), ⟨by decide +kernel, by decide +kernel⟩, okX6⟩
set_option maxRecDepth 100000 in
theorem oX6_mirrored : xMOk xTs xnl xMs mX6_mirrored := ⟨by decide +kernel, xT_in 790 (by rfl) rfl, by decide, by decide +kernel, rfl, xT_in 55 (by rfl) rfl, fun _ => xT_in 789 (by rfl) rfl, fun h => absurd h (by decide), ⟨by decide +kernel, by decide +kernel⟩, okX6⟩
set_option maxRecDepth 100000 in
theorem oX6_upsideDown : xMOk xTs xnl xMs mX6_upsideDown := ⟨by decide +kernel, xT_in 793 (by rfl) rfl, by decide, by decide +kernel, rfl, xT_in 55 (by rfl) rfl, fun _ => xT_in 792 (by rfl) rfl, fun h => absurd h (by decide), ⟨by decide +kernel, by decide +kernel⟩, okX6⟩
set_option maxRecDepth 100000 in
theorem oX6_shifted : xMOk xTs xnl xMs mX6_shifted := ⟨by decide +kernel, xT_in 797 (by rfl) rfl, by decide, by decide +kernel, rfl, xT_in 55 (by rfl) rfl, fun _ => xT_in 796 (by rfl) rfl, fun h => absurd h (by decide), ⟨by decide +kernel, by decide +kernel⟩, okX6⟩
set_option maxRecDepth 100000 in
theorem oX6_onSlide : xMOk xTs xnl xMs mX6_onSlide := ⟨by decide +kernel, xT_in 787 (by rfl) rfl, by decide, by decide +kernel, rfl, xT_in 55 (by rfl) rfl, fun h => absurd h (by decide), fun _ => ⟨xT_in 786 (by rfl) rfl, xT_in 34 (by rfl) rfl⟩, ⟨by decide +kernel, by decide +kernel⟩, okX6⟩
set_option maxRecDepth 100000 in
theorem oX6_laid : xMOk xTs xnl xMs mX6_laid := ⟨by decide +kernel, xT_in 821 (by rfl) rfl, by decide, by decide +kernel, rfl, xT_in 55 (by rfl) rfl, fun h => absurd h (by decide), fun _ => ⟨xT_in 820 (by rfl) rfl, xT_in 36 (by rfl) rfl⟩, ⟨by decide +kernel, by decide +kernel⟩, okX6⟩
set_option maxRecDepth 100000 in
theorem oX6_slide : xMOk xTs xnl xMs mX6_slide := ⟨by decide +kernel, xT_in 779 (by rfl) rfl, by decide, by decide +kernel, rfl, xT_in 55 (by rfl) rfl, fun h => absurd h (by decide), fun _ => ⟨xT_in 777 (by rfl) rfl, xT_in 778 (by rfl) rfl⟩, ⟨by decide +kernel, by decide +kernel⟩, okX6⟩
set_option maxRecDepth 100000 in
theorem oX6_wanted : xMOk xTs xnl xMs mX6_wanted := ⟨by decide +kernel, xT_in 801 (by rfl) rfl, by decide, by decide +kernel, rfl, xT_in 55 (by rfl) rfl, fun h => absurd h (by decide), fun _ => ⟨xT_in 799 (by rfl) rfl, xT_in 800 (by rfl) rfl⟩, ⟨by decide +kernel, by decide +kernel⟩, okX6⟩
set_option maxRecDepth 100000 in
theorem oX6_heat : xMOk xTs xnl xMs mX6_heat := ⟨by decide +kernel, xT_in 805 (by rfl) rfl, by decide, by decide +kernel, rfl, xT_in 55 (by rfl) rfl, fun h => absurd h (by decide), fun _ => ⟨xT_in 803 (by rfl) rfl, xT_in 804 (by rfl) rfl⟩, ⟨by decide +kernel, by decide +kernel⟩, okX6⟩
set_option maxRecDepth 100000 in
theorem oX6_price : xMOk xTs xnl xMs mX6_price := ⟨by decide +kernel, xT_in 809 (by rfl) rfl, by decide, by decide +kernel, rfl, xT_in 55 (by rfl) rfl, fun h => absurd h (by decide), fun _ => ⟨xT_in 807 (by rfl) rfl, xT_in 808 (by rfl) rfl⟩, ⟨by decide +kernel, by decide +kernel⟩, okX6⟩
set_option maxRecDepth 100000 in
theorem oX6_lay : xMOk xTs xnl xMs mX6_lay := ⟨by decide +kernel, xT_in 813 (by rfl) rfl, by decide, by decide +kernel, rfl, xT_in 55 (by rfl) rfl, fun h => absurd h (by decide), fun _ => ⟨xT_in 811 (by rfl) rfl, xT_in 812 (by rfl) rfl⟩, ⟨by decide +kernel, by decide +kernel⟩, okX6⟩
set_option maxRecDepth 100000 in
theorem oX6_projects : xMOk xTs xnl xMs mX6_projects := ⟨by decide +kernel, xT_in 836 (by rfl) rfl, by decide, by decide +kernel, rfl, xT_in 55 (by rfl) rfl, fun h => absurd h (by decide), fun _ => ⟨xT_in 835 (by rfl) rfl, xT_in 38 (by rfl) rfl⟩, ⟨by decide +kernel, by decide +kernel⟩, okX6⟩
set_option maxRecDepth 100000 in
theorem oX6_isShow : xMOk xTs xnl xMs mX6_isShow := ⟨by decide +kernel, xT_in 829 (by rfl) rfl, by decide, by decide +kernel, rfl, xT_in 55 (by rfl) rfl, fun h => absurd h (by decide), fun _ => ⟨xT_in 828 (by rfl) rfl, xT_in 37 (by rfl) rfl⟩, ⟨by decide +kernel, by decide +kernel⟩, okX6⟩
set_option maxRecDepth 100000 in
theorem oX6_project : xMOk xTs xnl xMs mX6_project := ⟨by decide +kernel, xT_in 825 (by rfl) rfl, by decide, by decide +kernel, rfl, xT_in 55 (by rfl) rfl, fun h => absurd h (by decide), fun _ => ⟨xT_in 823 (by rfl) rfl, xT_in 824 (by rfl) rfl⟩, ⟨by decide +kernel, by decide +kernel⟩, okX6⟩
set_option maxRecDepth 100000 in
theorem oX6_groups : xMOk xTs xnl xMs mX6_groups := ⟨by decide +kernel, xT_in 843 (by rfl) rfl, by decide, by decide +kernel, rfl, xT_in 55 (by rfl) rfl, fun _ => xT_in 842 (by rfl) rfl, fun h => absurd h (by decide), ⟨by decide +kernel, by decide +kernel⟩, okX6⟩
set_option maxRecDepth 100000 in
theorem oX6_gaps : xMOk xTs xnl xMs mX6_gaps := ⟨by decide +kernel, xT_in 840 (by rfl) rfl, by decide, by decide +kernel, rfl, xT_in 55 (by rfl) rfl, fun h => absurd h (by decide), fun _ => ⟨xT_in 838 (by rfl) rfl, xT_in 839 (by rfl) rfl⟩, ⟨by decide +kernel, by decide +kernel⟩, okX6⟩
set_option maxRecDepth 100000 in
theorem oX6_nearest : xMOk xTs xnl xMs mX6_nearest := ⟨by decide +kernel, xT_in 848 (by rfl) rfl, by decide, by decide +kernel, rfl, xT_in 55 (by rfl) rfl, fun h => absurd h (by decide), fun _ => ⟨xT_in 846 (by rfl) rfl, xT_in 847 (by rfl) rfl⟩, ⟨by decide +kernel, by decide +kernel⟩, okX6⟩
set_option maxRecDepth 100000 in
theorem oX6_pricesOf : xMOk xTs xnl xMs mX6_pricesOf := ⟨by decide +kernel, xT_in 864 (by rfl) rfl, by decide, by decide +kernel, rfl, xT_in 55 (by rfl) rfl, fun h => absurd h (by decide), fun _ => ⟨xT_in 863 (by rfl) rfl, xT_in 41 (by rfl) rfl⟩, ⟨by decide +kernel, by decide +kernel⟩, okX6⟩
set_option maxRecDepth 100000 in
theorem oX6_tellsShown : xMOk xTs xnl xMs mX6_tellsShown := ⟨by decide +kernel, xT_in 860 (by rfl) rfl, by decide, by decide +kernel, rfl, xT_in 55 (by rfl) rfl, fun h => absurd h (by decide), fun _ => ⟨xT_in 859 (by rfl) rfl, xT_in 40 (by rfl) rfl⟩, ⟨by decide +kernel, by decide +kernel⟩, okX6⟩
set_option maxRecDepth 100000 in
theorem oX6_findShown : xMOk xTs xnl xMs mX6_findShown := ⟨by decide +kernel, xT_in 856 (by rfl) rfl, by decide, by decide +kernel, rfl, xT_in 55 (by rfl) rfl, fun h => absurd h (by decide), fun _ => ⟨xT_in 855 (by rfl) rfl, xT_in 39 (by rfl) rfl⟩, ⟨by decide +kernel, by decide +kernel⟩, okX6⟩
set_option maxRecDepth 100000 in
theorem oX6_fewest : xMOk xTs xnl xMs mX6_fewest := ⟨by decide +kernel, xT_in 852 (by rfl) rfl, by decide, by decide +kernel, rfl, xT_in 55 (by rfl) rfl, fun h => absurd h (by decide), fun _ => ⟨xT_in 850 (by rfl) rfl, xT_in 851 (by rfl) rfl⟩, ⟨by decide +kernel, by decide +kernel⟩, okX6⟩
set_option maxRecDepth 100000 in
theorem oX6_cheapest : xMOk xTs xnl xMs mX6_cheapest := ⟨by decide +kernel, xT_in 868 (by rfl) rfl, by decide, by decide +kernel, rfl, xT_in 55 (by rfl) rfl, fun h => absurd h (by decide), fun _ => ⟨xT_in 866 (by rfl) rfl, xT_in 867 (by rfl) rfl⟩, ⟨by decide +kernel, by decide +kernel⟩, okX6⟩
set_option maxRecDepth 100000 in
theorem oX6_near : xMOk xTs xnl xMs mX6_near := ⟨by decide +kernel, xT_in 872 (by rfl) rfl, by decide, by decide +kernel, rfl, xT_in 55 (by rfl) rfl, fun h => absurd h (by decide), fun _ => ⟨xT_in 870 (by rfl) rfl, xT_in 871 (by rfl) rfl⟩, ⟨by decide +kernel, by decide +kernel⟩, okX6⟩
set_option maxRecDepth 100000 in
theorem oX6_canWithout : xMOk xTs xnl xMs mX6_canWithout := ⟨by decide +kernel, xT_in 880 (by rfl) rfl, by decide, by decide +kernel, rfl, xT_in 55 (by rfl) rfl, fun h => absurd h (by decide), fun _ => ⟨xT_in 879 (by rfl) rfl, xT_in 42 (by rfl) rfl⟩, ⟨by decide +kernel, by decide +kernel⟩, okX6⟩
set_option maxRecDepth 100000 in
theorem oX6_can : xMOk xTs xnl xMs mX6_can := ⟨by decide +kernel, xT_in 876 (by rfl) rfl, by decide, by decide +kernel, rfl, xT_in 55 (by rfl) rfl, fun h => absurd h (by decide), fun _ => ⟨xT_in 874 (by rfl) rfl, xT_in 875 (by rfl) rfl⟩, ⟨by decide +kernel, by decide +kernel⟩, okX6⟩
set_option maxRecDepth 100000 in
theorem oX6_worth : xMOk xTs xnl xMs mX6_worth := ⟨by decide +kernel, xT_in 884 (by rfl) rfl, by decide, by decide +kernel, rfl, xT_in 55 (by rfl) rfl, fun h => absurd h (by decide), fun _ => ⟨xT_in 882 (by rfl) rfl, xT_in 883 (by rfl) rfl⟩, ⟨by decide +kernel, by decide +kernel⟩, okX6⟩
set_option maxRecDepth 100000 in
theorem oX6_notAsked : xMOk xTs xnl xMs mX6_notAsked := ⟨by decide +kernel, xT_in 892 (by rfl) rfl, by decide, by decide +kernel, rfl, xT_in 55 (by rfl) rfl, fun h => absurd h (by decide), fun _ => ⟨xT_in 891 (by rfl) rfl, xT_in 43 (by rfl) rfl⟩, ⟨by decide +kernel, by decide +kernel⟩, okX6⟩
set_option maxRecDepth 100000 in
theorem oX6_sure : xMOk xTs xnl xMs mX6_sure := ⟨by decide +kernel, xT_in 888 (by rfl) rfl, by decide, by decide +kernel, rfl, xT_in 55 (by rfl) rfl, fun h => absurd h (by decide), fun _ => ⟨xT_in 886 (by rfl) rfl, xT_in 887 (by rfl) rfl⟩, ⟨by decide +kernel, by decide +kernel⟩, okX6⟩
set_option maxRecDepth 100000 in
theorem oX6_who : xMOk xTs xnl xMs mX6_who := ⟨by decide +kernel, xT_in 896 (by rfl) rfl, by decide, by decide +kernel, rfl, xT_in 55 (by rfl) rfl, fun h => absurd h (by decide), fun _ => ⟨xT_in 894 (by rfl) rfl, xT_in 895 (by rfl) rfl⟩, ⟨by decide +kernel, by decide +kernel⟩, okX6⟩
set_option maxRecDepth 100000 in
theorem oX6_divisor : xMOk xTs xnl xMs mX6_divisor := ⟨by decide +kernel, xT_in 909 (by rfl) rfl, by decide, by decide +kernel, rfl, xT_in 55 (by rfl) rfl, fun _ => xT_in 908 (by rfl) rfl, fun h => absurd h (by decide), ⟨by decide +kernel, by decide +kernel⟩, okX6⟩
set_option maxRecDepth 100000 in
theorem oX6_dust : xMOk xTs xnl xMs mX6_dust := ⟨by decide +kernel, xT_in 900 (by rfl) rfl, by decide, by decide +kernel, rfl, xT_in 55 (by rfl) rfl, fun h => absurd h (by decide), fun _ => ⟨xT_in 898 (by rfl) rfl, xT_in 899 (by rfl) rfl⟩, ⟨by decide +kernel, by decide +kernel⟩, okX6⟩
set_option maxRecDepth 100000 in
theorem oX6_findAsked : xMOk xTs xnl xMs mX6_findAsked := ⟨by decide +kernel, xT_in 917 (by rfl) rfl, by decide, by decide +kernel, rfl, xT_in 55 (by rfl) rfl, fun h => absurd h (by decide), fun _ => ⟨xT_in 916 (by rfl) rfl, xT_in 45 (by rfl) rfl⟩, ⟨by decide +kernel, by decide +kernel⟩, okX6⟩
set_option maxRecDepth 100000 in
theorem oX6_placeOf : xMOk xTs xnl xMs mX6_placeOf := ⟨by decide +kernel, xT_in 920 (by rfl) rfl, by decide, by decide +kernel, rfl, xT_in 55 (by rfl) rfl, fun _ => xT_in 919 (by rfl) rfl, fun h => absurd h (by decide), ⟨by decide +kernel, by decide +kernel⟩, okX6⟩
set_option maxRecDepth 100000 in
theorem oX6_lowers : xMOk xTs xnl xMs mX6_lowers := ⟨by decide +kernel, xT_in 924 (by rfl) rfl, by decide, by decide +kernel, rfl, xT_in 55 (by rfl) rfl, fun h => absurd h (by decide), fun _ => ⟨xT_in 923 (by rfl) rfl, xT_in 46 (by rfl) rfl⟩, ⟨by decide +kernel, by decide +kernel⟩, okX6⟩
set_option maxRecDepth 100000 in
theorem oX6_goesFrom : xMOk xTs xnl xMs mX6_goesFrom := ⟨by decide +kernel, xT_in 928 (by rfl) rfl, by decide, by decide +kernel, rfl, xT_in 55 (by rfl) rfl, fun h => absurd h (by decide), fun _ => ⟨xT_in 927 (by rfl) rfl, xT_in 47 (by rfl) rfl⟩, ⟨by decide +kernel, by decide +kernel⟩, okX6⟩
set_option maxRecDepth 100000 in
theorem oX6_round : xMOk xTs xnl xMs mX6_round := ⟨by decide +kernel, xT_in 913 (by rfl) rfl, by decide, by decide +kernel, rfl, xT_in 55 (by rfl) rfl, fun h => absurd h (by decide), fun _ => ⟨xT_in 911 (by rfl) rfl, xT_in 912 (by rfl) rfl⟩, ⟨by decide +kernel, by decide +kernel⟩, okX6⟩
set_option maxRecDepth 100000 in
theorem oX6_row : xMOk xTs xnl xMs mX6_row := ⟨by decide +kernel, xT_in 932 (by rfl) rfl, by decide, by decide +kernel, rfl, xT_in 55 (by rfl) rfl, fun h => absurd h (by decide), fun _ => ⟨xT_in 930 (by rfl) rfl, xT_in 931 (by rfl) rfl⟩, ⟨by decide +kernel, by decide +kernel⟩, okX6⟩
set_option maxRecDepth 100000 in
theorem oX6_isWish : xMOk xTs xnl xMs mX6_isWish := ⟨by decide +kernel, xT_in 940 (by rfl) rfl, by decide, by decide +kernel, rfl, xT_in 55 (by rfl) rfl, fun h => absurd h (by decide), fun _ => ⟨xT_in 939 (by rfl) rfl, xT_in 48 (by rfl) rfl⟩, ⟨by decide +kernel, by decide +kernel⟩, okX6⟩
set_option maxRecDepth 100000 in
theorem oX6_judge : xMOk xTs xnl xMs mX6_judge := ⟨by decide +kernel, xT_in 936 (by rfl) rfl, by decide, by decide +kernel, rfl, xT_in 55 (by rfl) rfl, fun h => absurd h (by decide), fun _ => ⟨xT_in 934 (by rfl) rfl, xT_in 935 (by rfl) rfl⟩, ⟨by decide +kernel, by decide +kernel⟩, okX6⟩
set_option maxRecDepth 100000 in
theorem oX6_seeds : xMOk xTs xnl xMs mX6_seeds := ⟨by decide +kernel, xT_in 944 (by rfl) rfl, by decide, by decide +kernel, rfl, xT_in 55 (by rfl) rfl, fun h => absurd h (by decide), fun _ => ⟨xT_in 942 (by rfl) rfl, xT_in 943 (by rfl) rfl⟩, ⟨by decide +kernel, by decide +kernel⟩, okX6⟩
set_option maxRecDepth 100000 in
theorem oX6_count : xMOk xTs xnl xMs mX6_count := ⟨by decide +kernel, xT_in 951 (by rfl) rfl, by decide, by decide +kernel, rfl, xT_in 55 (by rfl) rfl, fun h => absurd h (by decide), fun _ => ⟨xT_in 949 (by rfl) rfl, xT_in 950 (by rfl) rfl⟩, ⟨by decide +kernel, by decide +kernel⟩, okX6⟩
set_option maxRecDepth 100000 in
theorem xMs_ok : ∀ M ∈ [mX0_mirrored, mX0_flipped, mX0_shifted, mX0_grown, mX0_groups, mX1_becomes, mX1_addsSlide, mX1_addsWanted, mX1_heats, mX1_has, mX1_hasAll, mX1_hasWanted, mJ6_bitCount_0f7a4, mX1_isProjectable, mX1_isWanted, mX1_wantedPicture, mX1_cracked, mX1_onSlide, mX1_told, mX1_repriced, mX1_laid, mX1_wear, mX1_projected, mX1_nearestWanted, mX1_cracksToShow, mX1_allUses, mX1_allPrices, mX2_isFull, mX2_taken, mX2_forget, mX2_stateOpened, mX2_isDigit, mX2_stateBehind, mX2_fault, mX2_signAt, mX2_digit, mX2_number, mX2_pictureBefore, mX2_statementComes, mX2_toldTo, mX3_usable, mX3_dark, mX3_load, mX3_isOutOfReach, mX3_noteFewest, mX3_seekFewest, mX3_findsFewest, mX3_seekCheapest, mX3_leastPrice, mX3_seekNear, mX3_leastUnlike, mX3_isShown, mX3_showable, mX4_layAll, mX4_isShownByOne, mX4_findStops, mX4_arrive, mX4_walk, mX4_leastSteps, mX4_leastCost, mX5_wrongNumber, mX5_refused, mX5_feed, mX5_lantern, mX5_wrongSlide, mX5_wrongWhat, mX5_first, mX5_slide, mX5_wanted, mX5_heat, mX5_price, mX5_wrongSet, mX5_lay, mX5_project, mX5_wrongAsked, mX5_gaps, mX5_nearest, mX5_fewest, mX5_cheapest, mX5_near, mX5_can, mX5_worth, mX5_sure, mX5_who, mX5_power, mX5_dust, mX5_round, mX5_row, mX5_judge, mX5_nextSeed, mX5_drawBelow, mX5_seeds, mX5_image, mX5_restore, mX5_count, mX6_no, mX6_lowest, mX6_isIn, mX6_bound, mX6_isSlide, mX6_areSlides, mX6_feed, mX6_next, mX6_readsNumber, mX6_readsPicture, mX6_readsSlide, mX6_statement, mX6_comes, mX6_passes, mX6_passOne, mX6_passesAll, mX6_lantern, mX6_image, mX6_restore, mX6_bits, mX6_mirrored, mX6_upsideDown, mX6_shifted, mX6_onSlide, mX6_laid, mX6_slide, mX6_wanted, mX6_heat, mX6_price, mX6_lay, mX6_projects, mX6_isShow, mX6_project, mX6_groups, mX6_gaps, mX6_nearest, mX6_pricesOf, mX6_tellsShown, mX6_findShown, mX6_fewest, mX6_cheapest, mX6_near, mX6_canWithout, mX6_can, mX6_worth, mX6_notAsked, mX6_sure, mX6_who, mX6_divisor, mX6_dust, mX6_findAsked, mX6_placeOf, mX6_lowers, mX6_goesFrom, mX6_round, mX6_row, mX6_isWish, mX6_judge, mX6_seeds, mX6_count], xMOk xTs xnl xMs M := List.forall_mem_cons.mpr ⟨oX0_mirrored, List.forall_mem_cons.mpr ⟨oX0_flipped, List.forall_mem_cons.mpr ⟨oX0_shifted, List.forall_mem_cons.mpr ⟨oX0_grown, List.forall_mem_cons.mpr ⟨oX0_groups, List.forall_mem_cons.mpr ⟨oX1_becomes, List.forall_mem_cons.mpr ⟨oX1_addsSlide, List.forall_mem_cons.mpr ⟨oX1_addsWanted, List.forall_mem_cons.mpr ⟨oX1_heats, List.forall_mem_cons.mpr ⟨oX1_has, List.forall_mem_cons.mpr ⟨oX1_hasAll, List.forall_mem_cons.mpr ⟨oX1_hasWanted, List.forall_mem_cons.mpr ⟨oJ6_bitCount_0f7a4, List.forall_mem_cons.mpr ⟨oX1_isProjectable, List.forall_mem_cons.mpr ⟨oX1_isWanted, List.forall_mem_cons.mpr ⟨oX1_wantedPicture, List.forall_mem_cons.mpr ⟨oX1_cracked, List.forall_mem_cons.mpr ⟨oX1_onSlide, List.forall_mem_cons.mpr ⟨oX1_told, List.forall_mem_cons.mpr ⟨oX1_repriced, List.forall_mem_cons.mpr ⟨oX1_laid, List.forall_mem_cons.mpr ⟨oX1_wear, List.forall_mem_cons.mpr ⟨oX1_projected, List.forall_mem_cons.mpr ⟨oX1_nearestWanted, List.forall_mem_cons.mpr ⟨oX1_cracksToShow, List.forall_mem_cons.mpr ⟨oX1_allUses, List.forall_mem_cons.mpr ⟨oX1_allPrices, List.forall_mem_cons.mpr ⟨oX2_isFull, List.forall_mem_cons.mpr ⟨oX2_taken, List.forall_mem_cons.mpr ⟨oX2_forget, List.forall_mem_cons.mpr ⟨oX2_stateOpened, List.forall_mem_cons.mpr ⟨oX2_isDigit, List.forall_mem_cons.mpr ⟨oX2_stateBehind, List.forall_mem_cons.mpr ⟨oX2_fault, List.forall_mem_cons.mpr ⟨oX2_signAt, List.forall_mem_cons.mpr ⟨oX2_digit, List.forall_mem_cons.mpr ⟨oX2_number, List.forall_mem_cons.mpr ⟨oX2_pictureBefore, List.forall_mem_cons.mpr ⟨oX2_statementComes, List.forall_mem_cons.mpr ⟨oX2_toldTo, List.forall_mem_cons.mpr ⟨oX3_usable, List.forall_mem_cons.mpr ⟨oX3_dark, List.forall_mem_cons.mpr ⟨oX3_load, List.forall_mem_cons.mpr ⟨oX3_isOutOfReach, List.forall_mem_cons.mpr ⟨oX3_noteFewest, List.forall_mem_cons.mpr ⟨oX3_seekFewest, List.forall_mem_cons.mpr ⟨oX3_findsFewest, List.forall_mem_cons.mpr ⟨oX3_seekCheapest, List.forall_mem_cons.mpr ⟨oX3_leastPrice, List.forall_mem_cons.mpr ⟨oX3_seekNear, List.forall_mem_cons.mpr ⟨oX3_leastUnlike, List.forall_mem_cons.mpr ⟨oX3_isShown, List.forall_mem_cons.mpr ⟨oX3_showable, List.forall_mem_cons.mpr ⟨oX4_layAll, List.forall_mem_cons.mpr ⟨oX4_isShownByOne, List.forall_mem_cons.mpr ⟨oX4_findStops, List.forall_mem_cons.mpr ⟨oX4_arrive, List.forall_mem_cons.mpr ⟨oX4_walk, List.forall_mem_cons.mpr ⟨oX4_leastSteps, List.forall_mem_cons.mpr ⟨oX4_leastCost, List.forall_mem_cons.mpr ⟨oX5_wrongNumber, List.forall_mem_cons.mpr ⟨oX5_refused, List.forall_mem_cons.mpr ⟨oX5_feed, List.forall_mem_cons.mpr ⟨oX5_lantern, List.forall_mem_cons.mpr ⟨oX5_wrongSlide, List.forall_mem_cons.mpr ⟨oX5_wrongWhat, List.forall_mem_cons.mpr ⟨oX5_first, List.forall_mem_cons.mpr ⟨oX5_slide, List.forall_mem_cons.mpr ⟨oX5_wanted, List.forall_mem_cons.mpr ⟨oX5_heat, List.forall_mem_cons.mpr ⟨oX5_price, List.forall_mem_cons.mpr ⟨oX5_wrongSet, List.forall_mem_cons.mpr ⟨oX5_lay, List.forall_mem_cons.mpr ⟨oX5_project, List.forall_mem_cons.mpr ⟨oX5_wrongAsked, List.forall_mem_cons.mpr ⟨oX5_gaps, List.forall_mem_cons.mpr ⟨oX5_nearest, List.forall_mem_cons.mpr ⟨oX5_fewest, List.forall_mem_cons.mpr ⟨oX5_cheapest, List.forall_mem_cons.mpr ⟨oX5_near, List.forall_mem_cons.mpr ⟨oX5_can, List.forall_mem_cons.mpr ⟨oX5_worth, List.forall_mem_cons.mpr ⟨oX5_sure, List.forall_mem_cons.mpr ⟨oX5_who, List.forall_mem_cons.mpr ⟨oX5_power, List.forall_mem_cons.mpr ⟨oX5_dust, List.forall_mem_cons.mpr ⟨oX5_round, List.forall_mem_cons.mpr ⟨oX5_row, List.forall_mem_cons.mpr ⟨oX5_judge, List.forall_mem_cons.mpr ⟨oX5_nextSeed, List.forall_mem_cons.mpr ⟨oX5_drawBelow, List.forall_mem_cons.mpr ⟨oX5_seeds, List.forall_mem_cons.mpr ⟨oX5_image, List.forall_mem_cons.mpr ⟨oX5_restore, List.forall_mem_cons.mpr ⟨oX5_count, List.forall_mem_cons.mpr ⟨oX6_no, List.forall_mem_cons.mpr ⟨oX6_lowest, List.forall_mem_cons.mpr ⟨oX6_isIn, List.forall_mem_cons.mpr ⟨oX6_bound, List.forall_mem_cons.mpr ⟨oX6_isSlide, List.forall_mem_cons.mpr ⟨oX6_areSlides, List.forall_mem_cons.mpr ⟨oX6_feed, List.forall_mem_cons.mpr ⟨oX6_next, List.forall_mem_cons.mpr ⟨oX6_readsNumber, List.forall_mem_cons.mpr ⟨oX6_readsPicture, List.forall_mem_cons.mpr ⟨oX6_readsSlide, List.forall_mem_cons.mpr ⟨oX6_statement, List.forall_mem_cons.mpr ⟨oX6_comes, List.forall_mem_cons.mpr ⟨oX6_passes, List.forall_mem_cons.mpr ⟨oX6_passOne, List.forall_mem_cons.mpr ⟨oX6_passesAll, List.forall_mem_cons.mpr ⟨oX6_lantern, List.forall_mem_cons.mpr ⟨oX6_image, List.forall_mem_cons.mpr ⟨oX6_restore, List.forall_mem_cons.mpr ⟨oX6_bits, List.forall_mem_cons.mpr ⟨oX6_mirrored, List.forall_mem_cons.mpr ⟨oX6_upsideDown, List.forall_mem_cons.mpr ⟨oX6_shifted, List.forall_mem_cons.mpr ⟨oX6_onSlide, List.forall_mem_cons.mpr ⟨oX6_laid, List.forall_mem_cons.mpr ⟨oX6_slide, List.forall_mem_cons.mpr ⟨oX6_wanted, List.forall_mem_cons.mpr ⟨oX6_heat, List.forall_mem_cons.mpr ⟨oX6_price, List.forall_mem_cons.mpr ⟨oX6_lay, List.forall_mem_cons.mpr ⟨oX6_projects, List.forall_mem_cons.mpr ⟨oX6_isShow, List.forall_mem_cons.mpr ⟨oX6_project, List.forall_mem_cons.mpr ⟨oX6_groups, List.forall_mem_cons.mpr ⟨oX6_gaps, List.forall_mem_cons.mpr ⟨oX6_nearest, List.forall_mem_cons.mpr ⟨oX6_pricesOf, List.forall_mem_cons.mpr ⟨oX6_tellsShown, List.forall_mem_cons.mpr ⟨oX6_findShown, List.forall_mem_cons.mpr ⟨oX6_fewest, List.forall_mem_cons.mpr ⟨oX6_cheapest, List.forall_mem_cons.mpr ⟨oX6_near, List.forall_mem_cons.mpr ⟨oX6_canWithout, List.forall_mem_cons.mpr ⟨oX6_can, List.forall_mem_cons.mpr ⟨oX6_worth, List.forall_mem_cons.mpr ⟨oX6_notAsked, List.forall_mem_cons.mpr ⟨oX6_sure, List.forall_mem_cons.mpr ⟨oX6_who, List.forall_mem_cons.mpr ⟨oX6_divisor, List.forall_mem_cons.mpr ⟨oX6_dust, List.forall_mem_cons.mpr ⟨oX6_findAsked, List.forall_mem_cons.mpr ⟨oX6_placeOf, List.forall_mem_cons.mpr ⟨oX6_lowers, List.forall_mem_cons.mpr ⟨oX6_goesFrom, List.forall_mem_cons.mpr ⟨oX6_round, List.forall_mem_cons.mpr ⟨oX6_row, List.forall_mem_cons.mpr ⟨oX6_isWish, List.forall_mem_cons.mpr ⟨oX6_judge, List.forall_mem_cons.mpr ⟨oX6_seeds, List.forall_mem_cons.mpr ⟨oX6_count, fun _ h => absurd h List.not_mem_nil⟩⟩⟩⟩⟩⟩⟩⟩⟩⟩⟩⟩⟩⟩⟩⟩⟩⟩⟩⟩⟩⟩⟩⟩⟩⟩⟩⟩⟩⟩⟩⟩⟩⟩⟩⟩⟩⟩⟩⟩⟩⟩⟩⟩⟩⟩⟩⟩⟩⟩⟩⟩⟩⟩⟩⟩⟩⟩⟩⟩⟩⟩⟩⟩⟩⟩⟩⟩⟩⟩⟩⟩⟩⟩⟩⟩⟩⟩⟩⟩⟩⟩⟩⟩⟩⟩⟩⟩⟩⟩⟩⟩⟩⟩⟩⟩⟩⟩⟩⟩⟩⟩⟩⟩⟩⟩⟩⟩⟩⟩⟩⟩⟩⟩⟩⟩⟩⟩⟩⟩⟩⟩⟩⟩⟩⟩⟩⟩⟩⟩⟩⟩⟩⟩⟩⟩⟩⟩⟩⟩⟩⟩⟩⟩⟩⟩⟩⟩⟩⟩⟩⟩⟩⟩⟩
set_option maxRecDepth 100000 in
theorem xOK_all : xOK xTs xnl xMs := by
  refine ⟨fun w h => (List.mem_filter.mp h).2, ?_, fun c M h hc => ?_⟩
  · exact List.forall_mem_cons.mpr ⟨⟨_, _, _, _, _, _, rfl⟩, List.forall_mem_cons.mpr ⟨⟨_, _, _, _, _, _, rfl⟩, List.forall_mem_cons.mpr ⟨⟨_, _, _, _, _, _, rfl⟩, List.forall_mem_cons.mpr ⟨⟨_, _, _, _, _, _, rfl⟩, List.forall_mem_cons.mpr ⟨⟨_, _, _, _, _, _, rfl⟩, List.forall_mem_cons.mpr ⟨⟨_, _, _, _, _, _, rfl⟩, List.forall_mem_cons.mpr ⟨⟨_, _, _, _, _, _, rfl⟩, List.forall_mem_cons.mpr ⟨⟨_, _, _, _, _, _, rfl⟩, List.forall_mem_cons.mpr ⟨⟨_, _, _, _, _, _, rfl⟩, List.forall_mem_cons.mpr ⟨⟨_, _, _, _, _, _, rfl⟩, List.forall_mem_cons.mpr ⟨⟨_, _, _, _, _, _, rfl⟩, List.forall_mem_cons.mpr ⟨⟨_, _, _, _, _, _, rfl⟩, List.forall_mem_cons.mpr ⟨⟨_, _, _, _, _, _, rfl⟩, fun _ h => absurd h List.not_mem_nil⟩⟩⟩⟩⟩⟩⟩⟩⟩⟩⟩⟩⟩
  · cases c with
    | zero => exact absurd rfl hc
    | succ c =>
      refine xMs_ok M ?_
      have h2 : xnth [mX0_mirrored, mX0_flipped, mX0_shifted, mX0_grown, mX0_groups, mX1_becomes, mX1_addsSlide, mX1_addsWanted, mX1_heats, mX1_has, mX1_hasAll, mX1_hasWanted, mJ6_bitCount_0f7a4, mX1_isProjectable, mX1_isWanted, mX1_wantedPicture, mX1_cracked, mX1_onSlide, mX1_told, mX1_repriced, mX1_laid, mX1_wear, mX1_projected, mX1_nearestWanted, mX1_cracksToShow, mX1_allUses, mX1_allPrices, mX2_isFull, mX2_taken, mX2_forget, mX2_stateOpened, mX2_isDigit, mX2_stateBehind, mX2_fault, mX2_signAt, mX2_digit, mX2_number, mX2_pictureBefore, mX2_statementComes, mX2_toldTo, mX3_usable, mX3_dark, mX3_load, mX3_isOutOfReach, mX3_noteFewest, mX3_seekFewest, mX3_findsFewest, mX3_seekCheapest, mX3_leastPrice, mX3_seekNear, mX3_leastUnlike, mX3_isShown, mX3_showable, mX4_layAll, mX4_isShownByOne, mX4_findStops, mX4_arrive, mX4_walk, mX4_leastSteps, mX4_leastCost, mX5_wrongNumber, mX5_refused, mX5_feed, mX5_lantern, mX5_wrongSlide, mX5_wrongWhat, mX5_first, mX5_slide, mX5_wanted, mX5_heat, mX5_price, mX5_wrongSet, mX5_lay, mX5_project, mX5_wrongAsked, mX5_gaps, mX5_nearest, mX5_fewest, mX5_cheapest, mX5_near, mX5_can, mX5_worth, mX5_sure, mX5_who, mX5_power, mX5_dust, mX5_round, mX5_row, mX5_judge, mX5_nextSeed, mX5_drawBelow, mX5_seeds, mX5_image, mX5_restore, mX5_count, mX6_no, mX6_lowest, mX6_isIn, mX6_bound, mX6_isSlide, mX6_areSlides, mX6_feed, mX6_next, mX6_readsNumber, mX6_readsPicture, mX6_readsSlide, mX6_statement, mX6_comes, mX6_passes, mX6_passOne, mX6_passesAll, mX6_lantern, mX6_image, mX6_restore, mX6_bits, mX6_mirrored, mX6_upsideDown, mX6_shifted, mX6_onSlide, mX6_laid, mX6_slide, mX6_wanted, mX6_heat, mX6_price, mX6_lay, mX6_projects, mX6_isShow, mX6_project, mX6_groups, mX6_gaps, mX6_nearest, mX6_pricesOf, mX6_tellsShown, mX6_findShown, mX6_fewest, mX6_cheapest, mX6_near, mX6_canWithout, mX6_can, mX6_worth, mX6_notAsked, mX6_sure, mX6_who, mX6_divisor, mX6_dust, mX6_findAsked, mX6_placeOf, mX6_lowers, mX6_goesFrom, mX6_round, mX6_row, mX6_isWish, mX6_judge, mX6_seeds, mX6_count] c = some M := h
      rw [xnth_eq] at h2
      exact List.mem_of_getElem? h2
