/-! the reference keeps a lantern in a row, and takes it back (printed by wip/whole/gen_pass.py) -/
def cpK (f g : Nat → Int32) (c n : Nat) : Nat → Int32 := fun j => if c ≤ j ∧ j < c + n then g (j - c) else f j
theorem cpK_0 (f g : Nat → Int32) (c : Nat) : cpK f g c 0 = f := by
  funext j
  unfold cpK
  rw [if_neg (by omega)]
theorem cpK_s (f g : Nat → Int32) (c n : Nat) : upd (cpK f g c n) (c + n) (g n) = cpK f g c (n + 1) := by
  funext j
  rw [upd_at]
  unfold cpK
  by_cases e : j = c + n
  · rw [if_pos e, if_pos (by omega), e, Nat.add_sub_cancel_left]
  · rw [if_neg e]
    by_cases h : c ≤ j ∧ j < c + n
    · rw [if_pos h, if_pos (by omega)]
    · rw [if_neg h, if_neg (by omega)]
theorem cpK_in {f g : Nat → Int32} {c n j i : Nat} (h : j = c + i) (hi : i < n) : cpK f g c n j = g i := by
  unfold cpK
  rw [if_pos (by omega), h, Nat.add_sub_cancel_left]
theorem cpK_out {f g : Nat → Int32} {c n j : Nat} (h : j < c ∨ c + n ≤ j) : cpK f g c n j = f j := by
  unfold cpK
  rw [if_neg (by omega)]
theorem upd_ne {f : Nat → Int32} {k j : Nat} {v : Int32} (h : j ≠ k) : upd f k v j = f j := by rw [upd_at, if_neg h]
theorem upd_eq {f : Nat → Int32} {k j : Nat} {v : Int32} (h : j = k) : upd f k v j = v := by rw [upd_at, if_pos h]
theorem xcMV {tb : xT} {G : xK} {Cl : Nat → List Value → xH → xPost → Prop} {pc x n c : Nat} {M : xM} {v0 : Int32} {j : Int64} {loc : xL} {st rest : List Value} {a a' : Nat → Nat → Int32} {s s' : Nat → Int32} {as : List Value} (g3 : xG3 xMs tb Cl G) (hC : Cl c as (eM a s) (xRetV (eM a' s'))) (k : G (pc + 3) loc rest (eM a' s')) (hM : xnth xMs c = some M := by rfl) (hi : xlk tb pc = some ((match M.2.2.2.2.2.2 with | true => .invokestatic x | false => .invokevirtual x), n, [(v0, c)], j) := by rfl)
    (hst : st = (as.map (xrV pM)).reverse ++ rest := by rfl) (hr : Nat.ble (xcat rest) 8 = true := by rfl) : G pc loc st (eM a s) := xcallV g3 pM hC (by rw [xputM]; exact k) hM hi hst hr rfl (xsubM a s)
theorem m_keep0 (d : Nat) (a : Nat → Nat → Int32) (s : Nat → Int32) {c : Nat} (h7 : s 7 = 1) (h8 : s 8 = nI c) (hc : c + 8 ≤ 110) : xCt xMs (d + 1) nX6_passes [.ref 0, .ref 1] (eM a s) (xRetV (eM (aU a 11 (cpK (a 11) (a 0) c 8)) (sU s 8 (nI (c + 8))))) := by
  refine xV (M := mX6_passes) rfl rfl rfl rfl rfl pX6_passes rfl (fun G g1 g2 g3 => ?_)
  refine xwp_go g1 [2] 100 _ _ _ _ ?_
  refine up (k := 8) (P := fun i => ∀ x f v, x = nI i → f = cpK (a 11) (a 0) c i → v = nI (c + i) → G 2 [some (.ref 0), some (.ref 1), some (.int x)] [] (eM (aU a 11 f) (sU s 8 v))) ?_ ?_ 0 (Nat.zero_le _) _ (a 11) (s 8) rfl (cpK_0 _ _ _).symm h8
  · intro x f v hx hf hv
    subst hx; subst hf; subst hv
    refine xwp_go g1 [2] 100 _ _ _ _ ?_
    exact And.intro (fun _ => xrv (G := G) g2 rfl rfl) (fun h => absurd (by decide) h)
  · intro i hi ih x f v hx hf hv
    subst hx; subst hf; subst hv
    refine xwp_go g1 [2] 100 _ _ _ _ ?_
    refine And.intro (fun h => absurd h (nI_ge (b := 8) hi (by decide))) (fun _ => ?_)
    refine And.intro (fun h => absurd (show s 7 = 0 from h) (by rw [h7]; decide)) (fun _ => ?_)
    refine And.intro (vp_in_nI (by omega) (by decide)) (And.intro (vp_in_nI (by omega) (by decide)) ?_)
    refine ih _ (upd (cpK (a 11) (a 0) c i) (nI (c + i)).toNatClampNeg (a 0 (nI i).toNatClampNeg)) (nI (c + i) + 1) (nI_1 i) ?_ (by rw [nI_1]; rfl)
    rw [nI_clamp (by omega), nI_clamp (by omega), cpK_s]
theorem m_back0 (d : Nat) (a : Nat → Nat → Int32) (s : Nat → Int32) {c : Nat} (h7 : s 7 = 0) (h8 : s 8 = nI c) (hc : c + 8 ≤ 110) : xCt xMs (d + 1) nX6_passes [.ref 0, .ref 1] (eM a s) (xRetV (eM (aU a 0 (cpK (a 0) (fun i => a 11 (c + i)) 0 8)) (sU s 8 (nI (c + 8))))) := by
  refine xV (M := mX6_passes) rfl rfl rfl rfl rfl pX6_passes rfl (fun G g1 g2 g3 => ?_)
  refine xwp_go g1 [2] 100 _ _ _ _ ?_
  refine up (k := 8) (P := fun i => ∀ x f v, x = nI i → f = cpK (a 0) (fun i => a 11 (c + i)) 0 i → v = nI (c + i) → G 2 [some (.ref 0), some (.ref 1), some (.int x)] [] (eM (aU a 0 f) (sU s 8 v))) ?_ ?_ 0 (Nat.zero_le _) _ (a 0) (s 8) rfl (cpK_0 _ _ _).symm h8
  · intro x f v hx hf hv
    subst hx; subst hf; subst hv
    refine xwp_go g1 [2] 100 _ _ _ _ ?_
    exact And.intro (fun _ => xrv (G := G) g2 rfl rfl) (fun h => absurd (by decide) h)
  · intro i hi ih x f v hx hf hv
    subst hx; subst hf; subst hv
    refine xwp_go g1 [2] 100 _ _ _ _ ?_
    refine And.intro (fun h => absurd h (nI_ge (b := 8) hi (by decide))) (fun _ => ?_)
    refine And.intro (fun _ => ?_) (fun h => absurd h7 h)
    refine And.intro (vp_in_nI (by omega) (by decide)) (And.intro (vp_in_nI (by omega) (by decide)) ?_)
    refine ih _ (upd (cpK (a 0) (fun i => a 11 (c + i)) 0 i) (nI i).toNatClampNeg (a 11 (nI (c + i)).toNatClampNeg)) (nI (c + i) + 1) (nI_1 i) ?_ (by rw [nI_1]; rfl)
    rw [nI_clamp (by omega), nI_clamp (by omega)]
    have := cpK_s (a 0) (fun i => a 11 (c + i)) 0 i
    rw [Nat.zero_add] at this
    exact this
theorem m_keep1 (d : Nat) (a : Nat → Nat → Int32) (s : Nat → Int32) {c : Nat} (h7 : s 7 = 1) (h8 : s 8 = nI c) (hc : c + 8 ≤ 110) : xCt xMs (d + 1) nX6_passes [.ref 0, .ref 2] (eM a s) (xRetV (eM (aU a 11 (cpK (a 11) (a 1) c 8)) (sU s 8 (nI (c + 8))))) := by
  refine xV (M := mX6_passes) rfl rfl rfl rfl rfl pX6_passes rfl (fun G g1 g2 g3 => ?_)
  refine xwp_go g1 [2] 100 _ _ _ _ ?_
  refine up (k := 8) (P := fun i => ∀ x f v, x = nI i → f = cpK (a 11) (a 1) c i → v = nI (c + i) → G 2 [some (.ref 0), some (.ref 2), some (.int x)] [] (eM (aU a 11 f) (sU s 8 v))) ?_ ?_ 0 (Nat.zero_le _) _ (a 11) (s 8) rfl (cpK_0 _ _ _).symm h8
  · intro x f v hx hf hv
    subst hx; subst hf; subst hv
    refine xwp_go g1 [2] 100 _ _ _ _ ?_
    exact And.intro (fun _ => xrv (G := G) g2 rfl rfl) (fun h => absurd (by decide) h)
  · intro i hi ih x f v hx hf hv
    subst hx; subst hf; subst hv
    refine xwp_go g1 [2] 100 _ _ _ _ ?_
    refine And.intro (fun h => absurd h (nI_ge (b := 8) hi (by decide))) (fun _ => ?_)
    refine And.intro (fun h => absurd (show s 7 = 0 from h) (by rw [h7]; decide)) (fun _ => ?_)
    refine And.intro (vp_in_nI (by omega) (by decide)) (And.intro (vp_in_nI (by omega) (by decide)) ?_)
    refine ih _ (upd (cpK (a 11) (a 1) c i) (nI (c + i)).toNatClampNeg (a 1 (nI i).toNatClampNeg)) (nI (c + i) + 1) (nI_1 i) ?_ (by rw [nI_1]; rfl)
    rw [nI_clamp (by omega), nI_clamp (by omega), cpK_s]
theorem m_back1 (d : Nat) (a : Nat → Nat → Int32) (s : Nat → Int32) {c : Nat} (h7 : s 7 = 0) (h8 : s 8 = nI c) (hc : c + 8 ≤ 110) : xCt xMs (d + 1) nX6_passes [.ref 0, .ref 2] (eM a s) (xRetV (eM (aU a 1 (cpK (a 1) (fun i => a 11 (c + i)) 0 8)) (sU s 8 (nI (c + 8))))) := by
  refine xV (M := mX6_passes) rfl rfl rfl rfl rfl pX6_passes rfl (fun G g1 g2 g3 => ?_)
  refine xwp_go g1 [2] 100 _ _ _ _ ?_
  refine up (k := 8) (P := fun i => ∀ x f v, x = nI i → f = cpK (a 1) (fun i => a 11 (c + i)) 0 i → v = nI (c + i) → G 2 [some (.ref 0), some (.ref 2), some (.int x)] [] (eM (aU a 1 f) (sU s 8 v))) ?_ ?_ 0 (Nat.zero_le _) _ (a 1) (s 8) rfl (cpK_0 _ _ _).symm h8
  · intro x f v hx hf hv
    subst hx; subst hf; subst hv
    refine xwp_go g1 [2] 100 _ _ _ _ ?_
    exact And.intro (fun _ => xrv (G := G) g2 rfl rfl) (fun h => absurd (by decide) h)
  · intro i hi ih x f v hx hf hv
    subst hx; subst hf; subst hv
    refine xwp_go g1 [2] 100 _ _ _ _ ?_
    refine And.intro (fun h => absurd h (nI_ge (b := 8) hi (by decide))) (fun _ => ?_)
    refine And.intro (fun _ => ?_) (fun h => absurd h7 h)
    refine And.intro (vp_in_nI (by omega) (by decide)) (And.intro (vp_in_nI (by omega) (by decide)) ?_)
    refine ih _ (upd (cpK (a 1) (fun i => a 11 (c + i)) 0 i) (nI i).toNatClampNeg (a 11 (nI (c + i)).toNatClampNeg)) (nI (c + i) + 1) (nI_1 i) ?_ (by rw [nI_1]; rfl)
    rw [nI_clamp (by omega), nI_clamp (by omega)]
    have := cpK_s (a 1) (fun i => a 11 (c + i)) 0 i
    rw [Nat.zero_add] at this
    exact this
theorem m_keep2 (d : Nat) (a : Nat → Nat → Int32) (s : Nat → Int32) {c : Nat} (h7 : s 7 = 1) (h8 : s 8 = nI c) (hc : c + 8 ≤ 110) : xCt xMs (d + 1) nX6_passes [.ref 0, .ref 3] (eM a s) (xRetV (eM (aU a 11 (cpK (a 11) (a 2) c 8)) (sU s 8 (nI (c + 8))))) := by
  refine xV (M := mX6_passes) rfl rfl rfl rfl rfl pX6_passes rfl (fun G g1 g2 g3 => ?_)
  refine xwp_go g1 [2] 100 _ _ _ _ ?_
  refine up (k := 8) (P := fun i => ∀ x f v, x = nI i → f = cpK (a 11) (a 2) c i → v = nI (c + i) → G 2 [some (.ref 0), some (.ref 3), some (.int x)] [] (eM (aU a 11 f) (sU s 8 v))) ?_ ?_ 0 (Nat.zero_le _) _ (a 11) (s 8) rfl (cpK_0 _ _ _).symm h8
  · intro x f v hx hf hv
    subst hx; subst hf; subst hv
    refine xwp_go g1 [2] 100 _ _ _ _ ?_
    exact And.intro (fun _ => xrv (G := G) g2 rfl rfl) (fun h => absurd (by decide) h)
  · intro i hi ih x f v hx hf hv
    subst hx; subst hf; subst hv
    refine xwp_go g1 [2] 100 _ _ _ _ ?_
    refine And.intro (fun h => absurd h (nI_ge (b := 8) hi (by decide))) (fun _ => ?_)
    refine And.intro (fun h => absurd (show s 7 = 0 from h) (by rw [h7]; decide)) (fun _ => ?_)
    refine And.intro (vp_in_nI (by omega) (by decide)) (And.intro (vp_in_nI (by omega) (by decide)) ?_)
    refine ih _ (upd (cpK (a 11) (a 2) c i) (nI (c + i)).toNatClampNeg (a 2 (nI i).toNatClampNeg)) (nI (c + i) + 1) (nI_1 i) ?_ (by rw [nI_1]; rfl)
    rw [nI_clamp (by omega), nI_clamp (by omega), cpK_s]
theorem m_back2 (d : Nat) (a : Nat → Nat → Int32) (s : Nat → Int32) {c : Nat} (h7 : s 7 = 0) (h8 : s 8 = nI c) (hc : c + 8 ≤ 110) : xCt xMs (d + 1) nX6_passes [.ref 0, .ref 3] (eM a s) (xRetV (eM (aU a 2 (cpK (a 2) (fun i => a 11 (c + i)) 0 8)) (sU s 8 (nI (c + 8))))) := by
  refine xV (M := mX6_passes) rfl rfl rfl rfl rfl pX6_passes rfl (fun G g1 g2 g3 => ?_)
  refine xwp_go g1 [2] 100 _ _ _ _ ?_
  refine up (k := 8) (P := fun i => ∀ x f v, x = nI i → f = cpK (a 2) (fun i => a 11 (c + i)) 0 i → v = nI (c + i) → G 2 [some (.ref 0), some (.ref 3), some (.int x)] [] (eM (aU a 2 f) (sU s 8 v))) ?_ ?_ 0 (Nat.zero_le _) _ (a 2) (s 8) rfl (cpK_0 _ _ _).symm h8
  · intro x f v hx hf hv
    subst hx; subst hf; subst hv
    refine xwp_go g1 [2] 100 _ _ _ _ ?_
    exact And.intro (fun _ => xrv (G := G) g2 rfl rfl) (fun h => absurd (by decide) h)
  · intro i hi ih x f v hx hf hv
    subst hx; subst hf; subst hv
    refine xwp_go g1 [2] 100 _ _ _ _ ?_
    refine And.intro (fun h => absurd h (nI_ge (b := 8) hi (by decide))) (fun _ => ?_)
    refine And.intro (fun _ => ?_) (fun h => absurd h7 h)
    refine And.intro (vp_in_nI (by omega) (by decide)) (And.intro (vp_in_nI (by omega) (by decide)) ?_)
    refine ih _ (upd (cpK (a 2) (fun i => a 11 (c + i)) 0 i) (nI i).toNatClampNeg (a 11 (nI (c + i)).toNatClampNeg)) (nI (c + i) + 1) (nI_1 i) ?_ (by rw [nI_1]; rfl)
    rw [nI_clamp (by omega), nI_clamp (by omega)]
    have := cpK_s (a 2) (fun i => a 11 (c + i)) 0 i
    rw [Nat.zero_add] at this
    exact this
theorem m_keep3 (d : Nat) (a : Nat → Nat → Int32) (s : Nat → Int32) {c : Nat} (h7 : s 7 = 1) (h8 : s 8 = nI c) (hc : c + 8 ≤ 110) : xCt xMs (d + 1) nX6_passes [.ref 0, .ref 4] (eM a s) (xRetV (eM (aU a 11 (cpK (a 11) (a 3) c 8)) (sU s 8 (nI (c + 8))))) := by
  refine xV (M := mX6_passes) rfl rfl rfl rfl rfl pX6_passes rfl (fun G g1 g2 g3 => ?_)
  refine xwp_go g1 [2] 100 _ _ _ _ ?_
  refine up (k := 8) (P := fun i => ∀ x f v, x = nI i → f = cpK (a 11) (a 3) c i → v = nI (c + i) → G 2 [some (.ref 0), some (.ref 4), some (.int x)] [] (eM (aU a 11 f) (sU s 8 v))) ?_ ?_ 0 (Nat.zero_le _) _ (a 11) (s 8) rfl (cpK_0 _ _ _).symm h8
  · intro x f v hx hf hv
    subst hx; subst hf; subst hv
    refine xwp_go g1 [2] 100 _ _ _ _ ?_
    exact And.intro (fun _ => xrv (G := G) g2 rfl rfl) (fun h => absurd (by decide) h)
  · intro i hi ih x f v hx hf hv
    subst hx; subst hf; subst hv
    refine xwp_go g1 [2] 100 _ _ _ _ ?_
    refine And.intro (fun h => absurd h (nI_ge (b := 8) hi (by decide))) (fun _ => ?_)
    refine And.intro (fun h => absurd (show s 7 = 0 from h) (by rw [h7]; decide)) (fun _ => ?_)
    refine And.intro (vp_in_nI (by omega) (by decide)) (And.intro (vp_in_nI (by omega) (by decide)) ?_)
    refine ih _ (upd (cpK (a 11) (a 3) c i) (nI (c + i)).toNatClampNeg (a 3 (nI i).toNatClampNeg)) (nI (c + i) + 1) (nI_1 i) ?_ (by rw [nI_1]; rfl)
    rw [nI_clamp (by omega), nI_clamp (by omega), cpK_s]
theorem m_back3 (d : Nat) (a : Nat → Nat → Int32) (s : Nat → Int32) {c : Nat} (h7 : s 7 = 0) (h8 : s 8 = nI c) (hc : c + 8 ≤ 110) : xCt xMs (d + 1) nX6_passes [.ref 0, .ref 4] (eM a s) (xRetV (eM (aU a 3 (cpK (a 3) (fun i => a 11 (c + i)) 0 8)) (sU s 8 (nI (c + 8))))) := by
  refine xV (M := mX6_passes) rfl rfl rfl rfl rfl pX6_passes rfl (fun G g1 g2 g3 => ?_)
  refine xwp_go g1 [2] 100 _ _ _ _ ?_
  refine up (k := 8) (P := fun i => ∀ x f v, x = nI i → f = cpK (a 3) (fun i => a 11 (c + i)) 0 i → v = nI (c + i) → G 2 [some (.ref 0), some (.ref 4), some (.int x)] [] (eM (aU a 3 f) (sU s 8 v))) ?_ ?_ 0 (Nat.zero_le _) _ (a 3) (s 8) rfl (cpK_0 _ _ _).symm h8
  · intro x f v hx hf hv
    subst hx; subst hf; subst hv
    refine xwp_go g1 [2] 100 _ _ _ _ ?_
    exact And.intro (fun _ => xrv (G := G) g2 rfl rfl) (fun h => absurd (by decide) h)
  · intro i hi ih x f v hx hf hv
    subst hx; subst hf; subst hv
    refine xwp_go g1 [2] 100 _ _ _ _ ?_
    refine And.intro (fun h => absurd h (nI_ge (b := 8) hi (by decide))) (fun _ => ?_)
    refine And.intro (fun _ => ?_) (fun h => absurd h7 h)
    refine And.intro (vp_in_nI (by omega) (by decide)) (And.intro (vp_in_nI (by omega) (by decide)) ?_)
    refine ih _ (upd (cpK (a 3) (fun i => a 11 (c + i)) 0 i) (nI i).toNatClampNeg (a 11 (nI (c + i)).toNatClampNeg)) (nI (c + i) + 1) (nI_1 i) ?_ (by rw [nI_1]; rfl)
    rw [nI_clamp (by omega), nI_clamp (by omega)]
    have := cpK_s (a 3) (fun i => a 11 (c + i)) 0 i
    rw [Nat.zero_add] at this
    exact this
theorem m_keep4 (d : Nat) (a : Nat → Nat → Int32) (s : Nat → Int32) {c : Nat} (h7 : s 7 = 1) (h8 : s 8 = nI c) (hc : c + 8 ≤ 110) : xCt xMs (d + 1) nX6_passes [.ref 0, .ref 5] (eM a s) (xRetV (eM (aU a 11 (cpK (a 11) (a 4) c 8)) (sU s 8 (nI (c + 8))))) := by
  refine xV (M := mX6_passes) rfl rfl rfl rfl rfl pX6_passes rfl (fun G g1 g2 g3 => ?_)
  refine xwp_go g1 [2] 100 _ _ _ _ ?_
  refine up (k := 8) (P := fun i => ∀ x f v, x = nI i → f = cpK (a 11) (a 4) c i → v = nI (c + i) → G 2 [some (.ref 0), some (.ref 5), some (.int x)] [] (eM (aU a 11 f) (sU s 8 v))) ?_ ?_ 0 (Nat.zero_le _) _ (a 11) (s 8) rfl (cpK_0 _ _ _).symm h8
  · intro x f v hx hf hv
    subst hx; subst hf; subst hv
    refine xwp_go g1 [2] 100 _ _ _ _ ?_
    exact And.intro (fun _ => xrv (G := G) g2 rfl rfl) (fun h => absurd (by decide) h)
  · intro i hi ih x f v hx hf hv
    subst hx; subst hf; subst hv
    refine xwp_go g1 [2] 100 _ _ _ _ ?_
    refine And.intro (fun h => absurd h (nI_ge (b := 8) hi (by decide))) (fun _ => ?_)
    refine And.intro (fun h => absurd (show s 7 = 0 from h) (by rw [h7]; decide)) (fun _ => ?_)
    refine And.intro (vp_in_nI (by omega) (by decide)) (And.intro (vp_in_nI (by omega) (by decide)) ?_)
    refine ih _ (upd (cpK (a 11) (a 4) c i) (nI (c + i)).toNatClampNeg (a 4 (nI i).toNatClampNeg)) (nI (c + i) + 1) (nI_1 i) ?_ (by rw [nI_1]; rfl)
    rw [nI_clamp (by omega), nI_clamp (by omega), cpK_s]
theorem m_back4 (d : Nat) (a : Nat → Nat → Int32) (s : Nat → Int32) {c : Nat} (h7 : s 7 = 0) (h8 : s 8 = nI c) (hc : c + 8 ≤ 110) : xCt xMs (d + 1) nX6_passes [.ref 0, .ref 5] (eM a s) (xRetV (eM (aU a 4 (cpK (a 4) (fun i => a 11 (c + i)) 0 8)) (sU s 8 (nI (c + 8))))) := by
  refine xV (M := mX6_passes) rfl rfl rfl rfl rfl pX6_passes rfl (fun G g1 g2 g3 => ?_)
  refine xwp_go g1 [2] 100 _ _ _ _ ?_
  refine up (k := 8) (P := fun i => ∀ x f v, x = nI i → f = cpK (a 4) (fun i => a 11 (c + i)) 0 i → v = nI (c + i) → G 2 [some (.ref 0), some (.ref 5), some (.int x)] [] (eM (aU a 4 f) (sU s 8 v))) ?_ ?_ 0 (Nat.zero_le _) _ (a 4) (s 8) rfl (cpK_0 _ _ _).symm h8
  · intro x f v hx hf hv
    subst hx; subst hf; subst hv
    refine xwp_go g1 [2] 100 _ _ _ _ ?_
    exact And.intro (fun _ => xrv (G := G) g2 rfl rfl) (fun h => absurd (by decide) h)
  · intro i hi ih x f v hx hf hv
    subst hx; subst hf; subst hv
    refine xwp_go g1 [2] 100 _ _ _ _ ?_
    refine And.intro (fun h => absurd h (nI_ge (b := 8) hi (by decide))) (fun _ => ?_)
    refine And.intro (fun _ => ?_) (fun h => absurd h7 h)
    refine And.intro (vp_in_nI (by omega) (by decide)) (And.intro (vp_in_nI (by omega) (by decide)) ?_)
    refine ih _ (upd (cpK (a 4) (fun i => a 11 (c + i)) 0 i) (nI i).toNatClampNeg (a 11 (nI (c + i)).toNatClampNeg)) (nI (c + i) + 1) (nI_1 i) ?_ (by rw [nI_1]; rfl)
    rw [nI_clamp (by omega), nI_clamp (by omega)]
    have := cpK_s (a 4) (fun i => a 11 (c + i)) 0 i
    rw [Nat.zero_add] at this
    exact this
theorem m_keep5 (d : Nat) (a : Nat → Nat → Int32) (s : Nat → Int32) {c : Nat} (h7 : s 7 = 1) (h8 : s 8 = nI c) (hc : c + 6 ≤ 110) : xCt xMs (d + 1) nX6_passes [.ref 0, .ref 6] (eM a s) (xRetV (eM (aU a 11 (cpK (a 11) (a 5) c 6)) (sU s 8 (nI (c + 6))))) := by
  refine xV (M := mX6_passes) rfl rfl rfl rfl rfl pX6_passes rfl (fun G g1 g2 g3 => ?_)
  refine xwp_go g1 [2] 100 _ _ _ _ ?_
  refine up (k := 6) (P := fun i => ∀ x f v, x = nI i → f = cpK (a 11) (a 5) c i → v = nI (c + i) → G 2 [some (.ref 0), some (.ref 6), some (.int x)] [] (eM (aU a 11 f) (sU s 8 v))) ?_ ?_ 0 (Nat.zero_le _) _ (a 11) (s 8) rfl (cpK_0 _ _ _).symm h8
  · intro x f v hx hf hv
    subst hx; subst hf; subst hv
    refine xwp_go g1 [2] 100 _ _ _ _ ?_
    exact And.intro (fun _ => xrv (G := G) g2 rfl rfl) (fun h => absurd (by decide) h)
  · intro i hi ih x f v hx hf hv
    subst hx; subst hf; subst hv
    refine xwp_go g1 [2] 100 _ _ _ _ ?_
    refine And.intro (fun h => absurd h (nI_ge (b := 6) hi (by decide))) (fun _ => ?_)
    refine And.intro (fun h => absurd (show s 7 = 0 from h) (by rw [h7]; decide)) (fun _ => ?_)
    refine And.intro (vp_in_nI (by omega) (by decide)) (And.intro (vp_in_nI (by omega) (by decide)) ?_)
    refine ih _ (upd (cpK (a 11) (a 5) c i) (nI (c + i)).toNatClampNeg (a 5 (nI i).toNatClampNeg)) (nI (c + i) + 1) (nI_1 i) ?_ (by rw [nI_1]; rfl)
    rw [nI_clamp (by omega), nI_clamp (by omega), cpK_s]
theorem m_back5 (d : Nat) (a : Nat → Nat → Int32) (s : Nat → Int32) {c : Nat} (h7 : s 7 = 0) (h8 : s 8 = nI c) (hc : c + 6 ≤ 110) : xCt xMs (d + 1) nX6_passes [.ref 0, .ref 6] (eM a s) (xRetV (eM (aU a 5 (cpK (a 5) (fun i => a 11 (c + i)) 0 6)) (sU s 8 (nI (c + 6))))) := by
  refine xV (M := mX6_passes) rfl rfl rfl rfl rfl pX6_passes rfl (fun G g1 g2 g3 => ?_)
  refine xwp_go g1 [2] 100 _ _ _ _ ?_
  refine up (k := 6) (P := fun i => ∀ x f v, x = nI i → f = cpK (a 5) (fun i => a 11 (c + i)) 0 i → v = nI (c + i) → G 2 [some (.ref 0), some (.ref 6), some (.int x)] [] (eM (aU a 5 f) (sU s 8 v))) ?_ ?_ 0 (Nat.zero_le _) _ (a 5) (s 8) rfl (cpK_0 _ _ _).symm h8
  · intro x f v hx hf hv
    subst hx; subst hf; subst hv
    refine xwp_go g1 [2] 100 _ _ _ _ ?_
    exact And.intro (fun _ => xrv (G := G) g2 rfl rfl) (fun h => absurd (by decide) h)
  · intro i hi ih x f v hx hf hv
    subst hx; subst hf; subst hv
    refine xwp_go g1 [2] 100 _ _ _ _ ?_
    refine And.intro (fun h => absurd h (nI_ge (b := 6) hi (by decide))) (fun _ => ?_)
    refine And.intro (fun _ => ?_) (fun h => absurd h7 h)
    refine And.intro (vp_in_nI (by omega) (by decide)) (And.intro (vp_in_nI (by omega) (by decide)) ?_)
    refine ih _ (upd (cpK (a 5) (fun i => a 11 (c + i)) 0 i) (nI i).toNatClampNeg (a 11 (nI (c + i)).toNatClampNeg)) (nI (c + i) + 1) (nI_1 i) ?_ (by rw [nI_1]; rfl)
    rw [nI_clamp (by omega), nI_clamp (by omega)]
    have := cpK_s (a 5) (fun i => a 11 (c + i)) 0 i
    rw [Nat.zero_add] at this
    exact this
theorem m_keepOne (d : Nat) (a : Nat → Nat → Int32) (s : Nat → Int32) (v : Int32) {c : Nat} (h7 : s 7 = 1) (h8 : s 8 = nI c) (hc : c < 110) : xCt xMs (d + 1) nX6_passOne [.ref 0, .int v] (eM a s) (xRet v (eM (aU a 11 (upd (a 11) c v)) (sU s 8 (nI (c + 1))))) := by
  have hin : vp_in (s 8) 110 := by rw [h8]; exact vp_in_nI hc (by decide)
  have cl : (s 8).toNatClampNeg = c := by rw [h8]; exact nI_clamp (by omega)
  refine xV (M := mX6_passOne) rfl rfl rfl rfl rfl pX6_passOne rfl (fun G g1 g2 g3 => ?_)
  refine xwp_go g1 [] 100 _ _ _ _ ?_
  refine And.intro (fun h => absurd (show s 7 = 0 from h) (by rw [h7]; decide)) (fun _ => ?_)
  refine And.intro (fun h => absurd (show s 7 = 0 from h) (by rw [h7]; decide)) (fun _ => ?_)
  refine And.intro hin ?_
  refine xri (G := G) g2 rfl rfl ?_
  rw [cl, h8, nI_1]
  rfl
theorem m_backOne (d : Nat) (a : Nat → Nat → Int32) (s : Nat → Int32) (v : Int32) {c : Nat} (h7 : s 7 = 0) (h8 : s 8 = nI c) (hc : c < 110) : xCt xMs (d + 1) nX6_passOne [.ref 0, .int v] (eM a s) (xRet (a 11 c) (eM a (sU s 8 (nI (c + 1))))) := by
  have hin : vp_in (s 8) 110 := by rw [h8]; exact vp_in_nI hc (by decide)
  have cl : (s 8).toNatClampNeg = c := by rw [h8]; exact nI_clamp (by omega)
  refine xV (M := mX6_passOne) rfl rfl rfl rfl rfl pX6_passOne rfl (fun G g1 g2 g3 => ?_)
  refine xwp_go g1 [] 100 _ _ _ _ ?_
  refine And.intro (fun _ => ?_) (fun h => absurd h7 h)
  refine And.intro hin ?_
  refine And.intro (fun _ => ?_) (fun h => absurd h7 h)
  refine xri (G := G) g2 rfl (by rw [cl]) ?_
  rw [h8, nI_1]
  rfl
def keepP (q : LQ) (b : Nat) (a : Nat → Nat → Int32) (s : Nat → Int32) : xPost := fun v w => v = none ∧ ∃ (F : Nat → Int32) (s' : Nat → Int32), keptA q F b ∧ (∀ j, (j < b ∨ b + 49 ≤ j) → F j = a 11 j) ∧ (∀ r, r ≠ 7 → r ≠ 8 → s' r = s r) ∧ w = eM (aU a 11 F) s'
def backP (q : LQ) (a : Nat → Nat → Int32) (s : Nat → Int32) : xPost := fun v w => v = none ∧ ∃ (a' : Nat → Nat → Int32) (s' : Nat → Int32), relS q a' s' ∧ (∀ r, 6 ≤ r → a' r = a r) ∧ (∀ r, 3 ≤ r → r ≠ 7 → r ≠ 8 → s' r = s r) ∧ w = eM a' s'

theorem m_keepAll (d : Nat) {q : LQ} {a : Nat → Nat → Int32} {s : Nat → Int32} (hr : relS q a s) {o : Nat} (ho : o < 2) : xCt xMs (d + 2) nX6_passesAll [.ref 0, .int (nI o), .int 1] (eM a s) (keepP q (55 * o) a s) := by
  refine xV (M := mX6_passesAll) rfl rfl rfl rfl rfl pX6_passesAll rfl (fun G g1 g2 g3 => ?_)
  refine xwp_go g1 [] 100 _ _ _ _ ?_
  refine And.intro (Or.inr rfl) ?_
  have eb : (55 : Int32) * nI o = nI (55 * o) := pk_mul 55 o
  generalize hb : 55 * o = b at eb g2
  have hb2 : b ≤ 55 := by omega
  refine xcMV (G := G) g3 (m_keep0 d a (sU (sU s 8 ((55 : Int32) * nI o)) 7 1) (c := b) rfl eb (by omega)) ?_
  refine xwp_go g1 [] 100 _ _ _ _ ?_
  refine xcMV (G := G) g3 (m_keep1 d _ _ (c := b + 8) rfl rfl (by omega)) ?_
  refine xwp_go g1 [] 100 _ _ _ _ ?_
  refine xcMV (G := G) g3 (m_keep2 d _ _ (c := b + 16) rfl rfl (by omega)) ?_
  refine xwp_go g1 [] 100 _ _ _ _ ?_
  refine xcMV (G := G) g3 (m_keep3 d _ _ (c := b + 24) rfl rfl (by omega)) ?_
  refine xwp_go g1 [] 100 _ _ _ _ ?_
  refine xcMV (G := G) g3 (m_keep4 d _ _ (c := b + 32) rfl rfl (by omega)) ?_
  refine xwp_go g1 [] 100 _ _ _ _ ?_
  refine xcMV (G := G) g3 (m_keep5 d _ _ (c := b + 40) rfl rfl (by omega)) ?_
  refine xwp_go g1 [] 100 _ _ _ _ ?_
  refine xcMW (G := G) g3 (m_keepOne d (aU a 11 (cpK (cpK (cpK (cpK (cpK (cpK (a 11) (a 0) b 8) (a 1) (b + 8) 8) (a 2) (b + 16) 8) (a 3) (b + 24) 8) (a 4) (b + 32) 8) (a 5) (b + 40) 6)) (sU (sU s 7 1) 8 (nI (b + 46))) (s 0) (c := b + 46) rfl rfl (by omega)) ?_
  refine xwp_go g1 [] 100 _ _ _ _ ?_
  refine xcMW (G := G) g3 (m_keepOne d (aU a 11 (upd (cpK (cpK (cpK (cpK (cpK (cpK (a 11) (a 0) b 8) (a 1) (b + 8) 8) (a 2) (b + 16) 8) (a 3) (b + 24) 8) (a 4) (b + 32) 8) (a 5) (b + 40) 6) (b + 46) (s 0))) (sU (sU (sU (sU s 7 1) 8 (nI (b + 46))) 8 (nI (b + 47))) 0 (s 0)) (s 1) (c := b + 47) rfl rfl (by omega)) ?_
  refine xwp_go g1 [] 100 _ _ _ _ ?_
  refine xcMW (G := G) g3 (m_keepOne d (aU a 11 (upd (upd (cpK (cpK (cpK (cpK (cpK (cpK (a 11) (a 0) b 8) (a 1) (b + 8) 8) (a 2) (b + 16) 8) (a 3) (b + 24) 8) (a 4) (b + 32) 8) (a 5) (b + 40) 6) (b + 46) (s 0)) (b + 47) (s 1))) (sU (sU (sU (sU (sU (sU s 7 1) 8 (nI (b + 46))) 8 (nI (b + 47))) 0 (s 0)) 8 (nI (b + 48))) 1 (s 1)) (s 2) (c := b + 48) rfl rfl (by omega)) ?_
  refine xwp_go g1 [] 100 _ _ _ _ ?_
  refine xrv' (G := G) g2 rfl ⟨rfl, (upd (upd (upd (cpK (cpK (cpK (cpK (cpK (cpK (a 11) (a 0) b 8) (a 1) (b + 8) 8) (a 2) (b + 16) 8) (a 3) (b + 24) 8) (a 4) (b + 32) 8) (a 5) (b + 40) 6) (b + 46) (s 0)) (b + 47) (s 1)) (b + 48) (s 2)), (sU (sU (sU (sU s 7 1) 8 (nI (b + 49))) 0 (s 0)) 1 (s 1)), ?_, fun j hj => ?_, fun r h7 h8 => ?_, rfl⟩
  · obtain ⟨hok, hA, hW, h0, h1, h2⟩ := hr
    have p8 := hok.1
    have p6 := hok.2.1
    refine ⟨hok, fun i hi => ?_, fun i hi => ?_, ?_, ?_, ?_⟩
    · obtain ⟨k0, k1, k2, k3, k4⟩ := hA i hi
      refine ⟨?_, ?_, ?_, ?_, ?_⟩
      · rw [upd_ne (by omega), upd_ne (by omega), upd_ne (by omega), cpK_out (by omega), cpK_out (by omega), cpK_out (by omega), cpK_out (by omega), cpK_out (by omega), cpK_in (i := i) (by omega) (by omega), k0]
      · rw [upd_ne (by omega), upd_ne (by omega), upd_ne (by omega), cpK_out (by omega), cpK_out (by omega), cpK_out (by omega), cpK_out (by omega), cpK_in (i := i) (by omega) (by omega), k1]
      · rw [upd_ne (by omega), upd_ne (by omega), upd_ne (by omega), cpK_out (by omega), cpK_out (by omega), cpK_out (by omega), cpK_in (i := i) (by omega) (by omega), k2]
      · rw [upd_ne (by omega), upd_ne (by omega), upd_ne (by omega), cpK_out (by omega), cpK_out (by omega), cpK_in (i := i) (by omega) (by omega), k3]
      · rw [upd_ne (by omega), upd_ne (by omega), upd_ne (by omega), cpK_out (by omega), cpK_in (i := i) (by omega) (by omega), k4]
    · rw [upd_ne (by omega), upd_ne (by omega), upd_ne (by omega), cpK_in (i := i) (by omega) (by omega), hW i hi]
    · rw [upd_ne (by omega), upd_ne (by omega), upd_eq rfl, h0]
    · rw [upd_ne (by omega), upd_eq rfl, h1]
    · rw [upd_eq rfl, h2]
  · rw [upd_ne (by omega), upd_ne (by omega), upd_ne (by omega), cpK_out (by omega), cpK_out (by omega), cpK_out (by omega), cpK_out (by omega), cpK_out (by omega), cpK_out (by omega)]
  · by_cases e1 : r = 1
    · rw [e1]; rfl
    by_cases e0 : r = 0
    · rw [e0]; rfl
    rw [sU_ne e1, sU_ne e0, sU_ne h8, sU_ne h7]
theorem m_backAll (d : Nat) {q : LQ} {a : Nat → Nat → Int32} {s : Nat → Int32} {o : Nat} (ho : o < 2) (hk : keptA q (a 11) (55 * o)) : xCt xMs (d + 2) nX6_passesAll [.ref 0, .int (nI o), .int 0] (eM a s) (backP q a s) := by
  refine xV (M := mX6_passesAll) rfl rfl rfl rfl rfl pX6_passesAll rfl (fun G g1 g2 g3 => ?_)
  refine xwp_go g1 [] 100 _ _ _ _ ?_
  refine And.intro (Or.inl rfl) ?_
  have eb : (55 : Int32) * nI o = nI (55 * o) := pk_mul 55 o
  generalize hb : 55 * o = b at eb hk
  have hb2 : b ≤ 55 := by omega
  refine xcMV (G := G) g3 (m_back0 d a (sU (sU s 8 ((55 : Int32) * nI o)) 7 0) (c := b) rfl eb (by omega)) ?_
  refine xwp_go g1 [] 100 _ _ _ _ ?_
  refine xcMV (G := G) g3 (m_back1 d _ _ (c := b + 8) rfl rfl (by omega)) ?_
  refine xwp_go g1 [] 100 _ _ _ _ ?_
  refine xcMV (G := G) g3 (m_back2 d _ _ (c := b + 16) rfl rfl (by omega)) ?_
  refine xwp_go g1 [] 100 _ _ _ _ ?_
  refine xcMV (G := G) g3 (m_back3 d _ _ (c := b + 24) rfl rfl (by omega)) ?_
  refine xwp_go g1 [] 100 _ _ _ _ ?_
  refine xcMV (G := G) g3 (m_back4 d _ _ (c := b + 32) rfl rfl (by omega)) ?_
  refine xwp_go g1 [] 100 _ _ _ _ ?_
  refine xcMV (G := G) g3 (m_back5 d _ _ (c := b + 40) rfl rfl (by omega)) ?_
  refine xwp_go g1 [] 100 _ _ _ _ ?_
  refine xcMW (G := G) g3 (m_backOne d (aU (aU (aU (aU (aU (aU a 0 (cpK (a 0) (fun i => a 11 (b + i)) 0 8)) 1 (cpK (a 1) (fun i => a 11 ((b + 8) + i)) 0 8)) 2 (cpK (a 2) (fun i => a 11 ((b + 16) + i)) 0 8)) 3 (cpK (a 3) (fun i => a 11 ((b + 24) + i)) 0 8)) 4 (cpK (a 4) (fun i => a 11 ((b + 32) + i)) 0 8)) 5 (cpK (a 5) (fun i => a 11 ((b + 40) + i)) 0 6)) (sU (sU s 7 0) 8 (nI (b + 46))) _ (c := b + 46) rfl rfl (by omega)) ?_
  refine xwp_go g1 [] 100 _ _ _ _ ?_
  refine xcMW (G := G) g3 (m_backOne d (aU (aU (aU (aU (aU (aU a 0 (cpK (a 0) (fun i => a 11 (b + i)) 0 8)) 1 (cpK (a 1) (fun i => a 11 ((b + 8) + i)) 0 8)) 2 (cpK (a 2) (fun i => a 11 ((b + 16) + i)) 0 8)) 3 (cpK (a 3) (fun i => a 11 ((b + 24) + i)) 0 8)) 4 (cpK (a 4) (fun i => a 11 ((b + 32) + i)) 0 8)) 5 (cpK (a 5) (fun i => a 11 ((b + 40) + i)) 0 6)) (sU (sU (sU (sU s 7 0) 8 (nI (b + 46))) 8 (nI (b + 47))) 0 (a 11 (b + 46))) _ (c := b + 47) rfl rfl (by omega)) ?_
  refine xwp_go g1 [] 100 _ _ _ _ ?_
  refine xcMW (G := G) g3 (m_backOne d (aU (aU (aU (aU (aU (aU a 0 (cpK (a 0) (fun i => a 11 (b + i)) 0 8)) 1 (cpK (a 1) (fun i => a 11 ((b + 8) + i)) 0 8)) 2 (cpK (a 2) (fun i => a 11 ((b + 16) + i)) 0 8)) 3 (cpK (a 3) (fun i => a 11 ((b + 24) + i)) 0 8)) 4 (cpK (a 4) (fun i => a 11 ((b + 32) + i)) 0 8)) 5 (cpK (a 5) (fun i => a 11 ((b + 40) + i)) 0 6)) (sU (sU (sU (sU (sU (sU s 7 0) 8 (nI (b + 46))) 8 (nI (b + 47))) 0 (a 11 (b + 46))) 8 (nI (b + 48))) 1 (a 11 (b + 47))) _ (c := b + 48) rfl rfl (by omega)) ?_
  refine xwp_go g1 [] 100 _ _ _ _ ?_
  obtain ⟨hok, hA, hW, h0, h1, h2⟩ := hk
  have p8 := hok.1
  have p6 := hok.2.1
  refine xrv' (G := G) g2 rfl ⟨rfl, (aU (aU (aU (aU (aU (aU a 0 (cpK (a 0) (fun i => a 11 (b + i)) 0 8)) 1 (cpK (a 1) (fun i => a 11 ((b + 8) + i)) 0 8)) 2 (cpK (a 2) (fun i => a 11 ((b + 16) + i)) 0 8)) 3 (cpK (a 3) (fun i => a 11 ((b + 24) + i)) 0 8)) 4 (cpK (a 4) (fun i => a 11 ((b + 32) + i)) 0 8)) 5 (cpK (a 5) (fun i => a 11 ((b + 40) + i)) 0 6)), (sU (sU (sU (sU (sU s 7 0) 8 (nI (b + 49))) 0 (a 11 (b + 46))) 1 (a 11 (b + 47))) 2 (a 11 (b + 48))), ⟨hok, fun i hi => ?_, fun i hi => ?_, h0, h1, h2⟩, fun r h6 => ?_, fun r h3 h7 h8 => ?_, rfl⟩
  · obtain ⟨k0, k1, k2, k3, k4⟩ := hA i hi
    refine ⟨?_, ?_, ?_, ?_, ?_⟩
    · show cpK (a 0) (fun i => a 11 (b + i)) 0 8 i = _
      rw [cpK_in (i := i) (by omega) (by omega)]; exact k0
    · show cpK (a 1) (fun i => a 11 ((b + 8) + i)) 0 8 i = _
      rw [cpK_in (i := i) (by omega) (by omega)]; exact k1
    · show cpK (a 2) (fun i => a 11 ((b + 16) + i)) 0 8 i = _
      rw [cpK_in (i := i) (by omega) (by omega)]; exact k2
    · show cpK (a 3) (fun i => a 11 ((b + 24) + i)) 0 8 i = _
      rw [cpK_in (i := i) (by omega) (by omega)]; exact k3
    · show cpK (a 4) (fun i => a 11 ((b + 32) + i)) 0 8 i = _
      rw [cpK_in (i := i) (by omega) (by omega)]; exact k4
  · show cpK (a 5) (fun i => a 11 ((b + 40) + i)) 0 6 i = _
    rw [cpK_in (i := i) (by omega) (by omega)]; exact hW i hi
  · rw [aU_ne (by omega), aU_ne (by omega), aU_ne (by omega), aU_ne (by omega), aU_ne (by omega), aU_ne (by omega)]
  · rw [sU_ne (by omega), sU_ne (by omega), sU_ne (by omega), sU_ne h8, sU_ne h7]
