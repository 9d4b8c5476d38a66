/-! the law's loop, printed by wip/whole/gen_end.py -/
theorem lz_cond {L i : Nat} (hL : L ≤ 2048) (hi : i ≤ L + 3) : (Int32.ofNat L - 4 < nI i) ↔ L < i + 4 := by
  by_cases h : 4 ≤ L
  · have e : Int32.ofNat L - 4 = nI (L - 4) := pk_sub h
    rw [e, nI_ltI (by omega) (by omega)]
    omega
  · exact (show ∀ (a : Fin 4) (c : Fin 7), (Int32.ofNat a.1 - 4 < nI c.1) ↔ a.1 < c.1 + 4 by decide +kernel) ⟨L, by omega⟩ ⟨i, by omega⟩
theorem lz_and (x : Int32) : ∃ k, k < 32 ∧ x &&& 31 = nI k := by
  have e : nI x.toBitVec.toNat = x := by
    apply Int32.toBitVec_inj.1
    show BitVec.ofNat 32 x.toBitVec.toNat = x.toBitVec
    simp
  have h := fa_and x.toBitVec.toNat 31
  rw [e] at h
  exact ⟨x.toBitVec.toNat &&& 31, Nat.lt_succ_of_le Nat.and_le_right, h⟩
section LL
variable {p : Program} {l : Launch} {e : Env} {s : State} {m : MethodId} {below : List Frame} {meth : Method} {c : Code} {cells slots : Nat} {b L : Nat} {xs : Nat → Int32} {D : va_G} {cI : ClassId} {U V : Nat → Nat}
set_option maxHeartbeats 4000000 in
set_option maxRecDepth 20000 in
theorem lz_loop (C0 : lw_At p s m meth c b L xs) (hL : L ≤ 2048) (hK : va_K D vwCl [(cI, .int)] s) (hNw : ∀ w ∈ xnl, va_Nw w s) (hc1 : cells ≤ 600000) (hc2 : slots ≤ 7302250) : ∀ (n i : Nat), L < i + 4 * n → i ≤ L + 3 → ∀ (S : SG) (H : Heap) (locs : List Loc) (ls : Array Slot), lzI S D cI (fun q : Nat => s.heap.size ≤ q) H U V → va_S (fun q : Nat => s.heap.size ≤ q) s.heap H locs → lv_has ls 4 [(0, .ref b), (1, .ref (U 0)), (2, .ref (V 0)), (3, .int (nI i))] → W p l e room_1 s m #[Value.ref b] below meth c H locs cells slots (lw_Z below #[Value.ref b] s) (F0 m 18 ls []) := by
  obtain ⟨hx, hb, hr, hml, hown, hts0, hX, hbl, hlocks, hgv⟩ := id C0
  have hA : ∀ q : Nat, s.heap.size ≤ q → (fun q : Nat => s.heap.size ≤ q) q := fun _ h => h
  have hbA : ¬ (fun q : Nat => s.heap.size ≤ q) b := Nat.not_le.mpr hbl
  intro n
  induction n with
  | zero =>
    intro i hn hi S H locs ls hI hS hl
    refine lv_iload_n hx hb dlaw_18 rfl (lv_at hl 3 rfl) ?_
    refine lv_aload_n hx hb dlaw_19 rfl (lv_at hl 0 rfl) ?_
    refine va_slen hx hb hX hbl hbA hS dlaw_20 ?_
    refine lv_iconst (v := 4) hx hb dlaw_21 (by decide) ?_
    refine lv_isub hx hb dlaw_22 ?_
    refine lv_icmp_gt (tgt := 810) hx hb dlaw_23 (by decide) (fun h => ?_) (fun h => absurd ((lz_cond hL hi).mpr (by omega)) h)
    refine lv_iconst (v := 1) hx hb dlaw_810 (by decide) ?_
    refine va_forget (fun q hq => hS.2.2 q hq) ?_
    refine W.widen (k := 600000) (n := 7302250) hc1 hc2 ?_
    exact lw_ret hx hb hr hlocks dlaw_811
  | succ n ih =>
    intro i hn hi S H locs ls hI hS hl
    refine lv_iload_n hx hb dlaw_18 rfl (lv_at hl 3 rfl) ?_
    refine lv_aload_n hx hb dlaw_19 rfl (lv_at hl 0 rfl) ?_
    refine va_slen hx hb hX hbl hbA hS dlaw_20 ?_
    refine lv_iconst (v := 4) hx hb dlaw_21 (by decide) ?_
    refine lv_isub hx hb dlaw_22 ?_
    refine lv_icmp_gt (tgt := 810) hx hb dlaw_23 (by decide) (fun h => ?_) (fun h => ?_)
    · refine lv_iconst (v := 1) hx hb dlaw_810 (by decide) ?_
      refine va_forget (fun q hq => hS.2.2 q hq) ?_
      refine W.widen (k := 600000) (n := 7302250) hc1 hc2 ?_
      exact lw_ret hx hb hr hlocks dlaw_811
    · rw [lz_cond hL hi] at h
      have hi4 : i + 4 ≤ L := by omega
      have E : lzE p s m meth c b L xs D cI (fun q : Nat => s.heap.size ≤ q) U V i ls cells slots := ⟨C0, hL, hK, hNw, hA, hbA, hi4, hl, hc1, hc2⟩
      have kk : lzG p l e s m below meth c (lw_Z below #[Value.ref b] s) b D cI (fun q : Nat => s.heap.size ≤ q) U V ls cells slots 804 := by
        intro S H locs hI hS
        refine lv_iinc (v := nI (i + 4)) (lv' := [(3, .int (nI (i + 4))), (0, .ref b), (1, .ref (U 0)), (2, .ref (V 0))]) hx hb dlaw_804 hl (k := 3) rfl (nI_add i 4) (by decide) rfl (fun ls hl => ?_)
        refine lv_goto (tgt := 18) hx hb dlaw_807 (by decide) ?_
        exact ih (i + 4) (by omega) (by omega) S H locs ls hI hS (lv_sub hl [1, 2, 3, 0] rfl)
      refine lv_aload_n hx hb dlaw_26 rfl (lv_at hl 0 rfl) ?_
      refine lv_iload_n hx hb dlaw_27 rfl (lv_at hl 3 rfl) ?_
      refine va_sld hx hb hX hbl hbA hS (vp_in_nI (by omega) (by omega)) dlaw_28 ?_
      refine lv_bipush (v := 31) hx hb dlaw_29 (by decide) ?_
      refine lv_iand hx hb dlaw_31 ?_
      obtain ⟨k, hk, ek⟩ := lz_and (xs (nI i).toNatClampNeg)
      rw [ek]
      rcases (show k = 0 ∨ k = 1 ∨ k = 2 ∨ k = 3 ∨ k = 4 ∨ k = 5 ∨ k = 6 ∨ k = 7 ∨ k = 8 ∨ k = 9 ∨ k = 10 ∨ k = 11 ∨ k = 12 ∨ k = 13 ∨ k = 14 ∨ k = 15 ∨ k = 16 ∨ k = 17 ∨ k = 18 ∨ k = 19 ∨ k = 20 ∨ k = 21 ∨ k = 22 ∨ k = 23 ∨ k = 24 ∨ 25 ≤ k by omega) with rfl | rfl | rfl | rfl | rfl | rfl | rfl | rfl | rfl | rfl | rfl | rfl | rfl | rfl | rfl | rfl | rfl | rfl | rfl | rfl | rfl | rfl | rfl | rfl | rfl | hk2
      · exact lv_tableIn (off := 116) (tgt := 148) hx hb dlaw_32 (by decide) (by decide) (by decide +kernel) (by decide) (lc_0 E kk S H locs hI hS)
      · exact lv_tableIn (off := 139) (tgt := 171) hx hb dlaw_32 (by decide) (by decide) (by decide +kernel) (by decide) (lc_1 E kk S H locs hI hS)
      · exact lv_tableIn (off := 152) (tgt := 184) hx hb dlaw_32 (by decide) (by decide) (by decide +kernel) (by decide) (lc_2 E kk S H locs hI hS)
      · exact lv_tableIn (off := 185) (tgt := 217) hx hb dlaw_32 (by decide) (by decide) (by decide +kernel) (by decide) (lc_3 E kk S H locs hI hS)
      · exact lv_tableIn (off := 208) (tgt := 240) hx hb dlaw_32 (by decide) (by decide) (by decide +kernel) (by decide) (lc_4 E kk S H locs hI hS)
      · exact lv_tableIn (off := 231) (tgt := 263) hx hb dlaw_32 (by decide) (by decide) (by decide +kernel) (by decide) (lc_5 E kk S H locs hI hS)
      · exact lv_tableIn (off := 264) (tgt := 296) hx hb dlaw_32 (by decide) (by decide) (by decide +kernel) (by decide) (lc_6 E kk S H locs hI hS)
      · exact lv_tableIn (off := 297) (tgt := 329) hx hb dlaw_32 (by decide) (by decide) (by decide +kernel) (by decide) (lc_7 E kk S H locs hI hS)
      · exact lv_tableIn (off := 320) (tgt := 352) hx hb dlaw_32 (by decide) (by decide) (by decide +kernel) (by decide) (lc_8 E kk S H locs hI hS)
      · exact lv_tableIn (off := 353) (tgt := 385) hx hb dlaw_32 (by decide) (by decide) (by decide +kernel) (by decide) (lc_9 E kk S H locs hI hS)
      · exact lv_tableIn (off := 386) (tgt := 418) hx hb dlaw_32 (by decide) (by decide) (by decide +kernel) (by decide) (lc_10 E kk S H locs hI hS)
      · exact lv_tableIn (off := 419) (tgt := 451) hx hb dlaw_32 (by decide) (by decide) (by decide +kernel) (by decide) (lc_11 E kk S H locs hI hS)
      · exact lv_tableIn (off := 442) (tgt := 474) hx hb dlaw_32 (by decide) (by decide) (by decide +kernel) (by decide) (lc_12 E kk S H locs hI hS)
      · exact lv_tableIn (off := 465) (tgt := 497) hx hb dlaw_32 (by decide) (by decide) (by decide +kernel) (by decide) (lc_13 E kk S H locs hI hS)
      · exact lv_tableIn (off := 488) (tgt := 520) hx hb dlaw_32 (by decide) (by decide) (by decide +kernel) (by decide) (lc_14 E kk S H locs hI hS)
      · exact lv_tableIn (off := 511) (tgt := 543) hx hb dlaw_32 (by decide) (by decide) (by decide +kernel) (by decide) (lc_15 E kk S H locs hI hS)
      · exact lv_tableIn (off := 554) (tgt := 586) hx hb dlaw_32 (by decide) (by decide) (by decide +kernel) (by decide) (lc_16 E kk S H locs hI hS)
      · exact lv_tableIn (off := 597) (tgt := 629) hx hb dlaw_32 (by decide) (by decide) (by decide +kernel) (by decide) (lc_17 E kk S H locs hI hS)
      · exact lv_tableIn (off := 641) (tgt := 673) hx hb dlaw_32 (by decide) (by decide) (by decide +kernel) (by decide) (lc_18 E kk S H locs hI hS)
      · exact lv_tableIn (off := 654) (tgt := 686) hx hb dlaw_32 (by decide) (by decide) (by decide +kernel) (by decide) (lc_19 E kk S H locs hI hS)
      · exact lv_tableIn (off := 677) (tgt := 709) hx hb dlaw_32 (by decide) (by decide) (by decide +kernel) (by decide) (lc_20 E kk S H locs hI hS)
      · exact lv_tableIn (off := 690) (tgt := 722) hx hb dlaw_32 (by decide) (by decide) (by decide +kernel) (by decide) (lc_21 E kk S H locs hI hS)
      · exact lv_tableIn (off := 723) (tgt := 755) hx hb dlaw_32 (by decide) (by decide) (by decide +kernel) (by decide) (lc_22 E kk S H locs hI hS)
      · exact lv_tableIn (off := 736) (tgt := 768) hx hb dlaw_32 (by decide) (by decide) (by decide +kernel) (by decide) (lc_23 E kk S H locs hI hS)
      · exact lv_tableIn (off := 749) (tgt := 781) hx hb dlaw_32 (by decide) (by decide) (by decide +kernel) (by decide) (lc_24 E kk S H locs hI hS)
      · exact lv_tableOut (tgt := 804) hx hb dlaw_32 (Or.inr (by rw [nI_toInt (by omega)]; omega)) (by decide) (kk S H locs hI hS)
end LL
