/-! the class's Cells, Integer.bitCount -/
theorem c_bitCount (d : Nat) (ws : xH) {p : Nat} (hp : p < 65536) : xCt xMs (d + 1) nJ6_bitCount_0f7a4 [.int (nI p)] ws (xRet (nI (pop p)) ws) := by
  refine xS (M := mJ6_bitCount_0f7a4) rfl rfl pJ6_bitCount_0f7a4 rfl (fun G g1 g2 g3 => ?_)
  refine xwp_go g1 [] 100 _ _ _ _ ?_
  exact xri g2 rfl (bc_eq hp) rfl
theorem c_mirrored (d : Nat) (ws : xH) {p : Nat} (hp : p < 65536) : xCt xMs (d + 1) nX0_mirrored [.int (nI p)] ws (xRet (nI (mirN p)) ws) := by
  refine xS (M := mX0_mirrored) rfl rfl pX0_mirrored rfl (fun G g1 g2 g3 => ?_)
  refine xwp_go g1 [] 100 _ _ _ _ ?_
  refine xri g2 rfl ?_ rfl
  have h2 : (p &&& 52428) < 65536 := Nat.lt_of_le_of_lt Nat.and_le_left hp
  have h1 : (p &&& 13107) < 16384 := Nat.lt_of_le_of_lt Nat.and_le_right (by decide)
  have e1 : ((nI p &&& 13107) <<< ((2 : Int32) &&& 31) ||| (nI p &&& 52428) >>> ((2 : Int32) &&& 31)) = nI ((p &&& 13107) * 4 ||| (p &&& 52428) / 4) := by
    rw [show (13107 : Int32) = nI 13107 from rfl, show (52428 : Int32) = nI 52428 from rfl, fa_and, fa_and, show nI (p &&& 13107) <<< ((2 : Int32) &&& 31) = nI ((p &&& 13107) * 4) from nI_shl (i := 2) (by decide) (by omega), show nI (p &&& 52428) >>> ((2 : Int32) &&& 31) = nI ((p &&& 52428) / 4) from nI_shr (i := 2) (by decide) (by omega), fa_or]
  rw [e1, ← mirC_eq hp]
  unfold mirC
  generalize (p &&& 13107) * 4 ||| (p &&& 52428) / 4 = y
  have h3 : (y &&& 21845) < 32768 := Nat.lt_of_le_of_lt Nat.and_le_right (by decide)
  have h4 : (y &&& 43690) < 65536 := Nat.lt_of_le_of_lt Nat.and_le_right (by decide)
  rw [show (21845 : Int32) = nI 21845 from rfl, show (43690 : Int32) = nI 43690 from rfl, fa_and, fa_and, show nI (y &&& 21845) <<< ((1 : Int32) &&& 31) = nI ((y &&& 21845) * 2) from nI_shl (i := 1) (by decide) (by omega), show nI (y &&& 43690) >>> ((1 : Int32) &&& 31) = nI ((y &&& 43690) / 2) from nI_shr (i := 1) (by decide) (by omega), fa_or]
theorem c_flipped (d : Nat) (ws : xH) {p : Nat} (hp : p < 65536) : xCt xMs (d + 1) nX0_flipped [.int (nI p)] ws (xRet (nI (flipN p)) ws) := by
  refine xS (M := mX0_flipped) rfl rfl pX0_flipped rfl (fun G g1 g2 g3 => ?_)
  refine xwp_go g1 [] 100 _ _ _ _ ?_
  refine xri g2 rfl ?_ rfl
  have h2 : (p &&& 65280) < 65536 := Nat.lt_of_le_of_lt Nat.and_le_left hp
  have h1 : (p &&& 255) < 256 := Nat.lt_of_le_of_lt Nat.and_le_right (by decide)
  have e1 : ((nI p &&& 255) <<< ((8 : Int32) &&& 31) ||| (nI p &&& 65280) >>> ((8 : Int32) &&& 31)) = nI ((p &&& 255) * 256 ||| (p &&& 65280) / 256) := by
    rw [show (255 : Int32) = nI 255 from rfl, show (65280 : Int32) = nI 65280 from rfl, fa_and, fa_and, show nI (p &&& 255) <<< ((8 : Int32) &&& 31) = nI ((p &&& 255) * 256) from nI_shl (i := 8) (by decide) (by omega), show nI (p &&& 65280) >>> ((8 : Int32) &&& 31) = nI ((p &&& 65280) / 256) from nI_shr (i := 8) (by decide) (by omega), fa_or]
  rw [e1, ← flipC_eq hp]
  unfold flipC
  generalize (p &&& 255) * 256 ||| (p &&& 65280) / 256 = y
  have h3 : (y &&& 3855) < 4096 := Nat.lt_of_le_of_lt Nat.and_le_right (by decide)
  have h4 : (y &&& 61680) < 65536 := Nat.lt_of_le_of_lt Nat.and_le_right (by decide)
  rw [show (3855 : Int32) = nI 3855 from rfl, show (61680 : Int32) = nI 61680 from rfl, fa_and, fa_and, show nI (y &&& 3855) <<< ((4 : Int32) &&& 31) = nI ((y &&& 3855) * 16) from nI_shl (i := 4) (by decide) (by omega), show nI (y &&& 61680) >>> ((4 : Int32) &&& 31) = nI ((y &&& 61680) / 16) from nI_shr (i := 4) (by decide) (by omega), fa_or]
theorem shI {p : Nat} (hp : p < 65536) : (nI p &&& (-34953)) <<< ((1 : Int32) &&& 31) ||| (nI p &&& 34952) >>> ((3 : Int32) &&& 31) = nI (shC p) := by
  have h1 : (p &&& 4294932343) < 65536 := Nat.lt_of_le_of_lt Nat.and_le_left hp
  have h2 : (p &&& 34952) < 65536 := Nat.lt_of_le_of_lt Nat.and_le_left hp
  unfold shC
  rw [show ((-34953) : Int32) = nI 4294932343 from by decide, show (34952 : Int32) = nI 34952 from rfl, fa_and, fa_and, show nI (p &&& 4294932343) <<< ((1 : Int32) &&& 31) = nI ((p &&& 4294932343) * 2) from nI_shl (i := 1) (by decide) (by omega), show nI (p &&& 34952) >>> ((3 : Int32) &&& 31) = nI ((p &&& 34952) / 8) from nI_shr (i := 3) (by decide) (by omega), fa_or]
theorem c_shifted (d : Nat) (ws : xH) {p k : Nat} (hp : p < 65536) (hk : k < 4) : xCt xMs (d + 1) nX0_shifted [.int (nI p), .int (nI k)] ws (xRet (nI (shiftN p k)) ws) := by
  refine xS (M := mX0_shifted) rfl rfl pX0_shifted rfl (fun G g1 g2 g3 => ?_)
  have loop : ∀ n i x y, i + n = k → x = nI i → y = nI (shiftN p i) → G 4 [some (.int (nI p)), some (.int (nI k)), some (.int y), some (.int x)] [] ws := by
    intro n
    induction n with
    | zero =>
      intro i x y hi hx hy
      refine xwp_go g1 [4] 100 _ _ _ _ ?_
      refine And.intro (fun h => ?_) (fun h => ?_)
      · exact xri g2 rfl (by rw [hy, show i = k by omega]) rfl
      · exact absurd (by rw [hx]; exact nI_le (by omega) (by omega)) h
    | succ n ih =>
      intro i x y hi hx hy
      refine xwp_go g1 [4] 100 _ _ _ _ ?_
      refine And.intro (fun h => ?_) (fun h => ?_)
      · rw [hx] at h
        exact absurd h (nI_ge (by omega) (by omega))
      · refine ih (i + 1) _ _ (by omega) (by rw [hx]; exact nI_1 i) ?_
        rw [hy, shI (shiftN_lt _ _), shC_eq hp (by omega)]
  refine xwp_go g1 [4] 100 _ _ _ _ ?_
  exact loop k 0 _ _ (by omega) rfl (by rw [shiftN_0 hp])
