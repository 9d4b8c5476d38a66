/-! to begin a method -/
theorem xS {c d : Nat} {M : xM} {as : List Value} {ws : xH} {Post : xPost} (hM : xnth xMs c = some M) (hs : M.2.2.2.2.2.2 = true) (hp : (parseMethodDescriptor M.1.desc).map (fun q => q.parameters.length) = some as.length) (hl : Nat.ble (xsl as).length M.2.2.1 = true)
    (h : ∀ G : xK, xG1 M.2.2.2.2.1 G → xG2 M.2.2.2.2.1 M.2.2.2.1 Post G → xG3 xMs M.2.2.2.2.1 (xCt xMs d) G → G 0 (xent as M.2.2.1) [] ws) : xCt xMs (d + 1) c as ws Post :=
  ⟨M, hM, by rw [hs]; exact hp, hl, h⟩
theorem xV {c d a ci : Nat} {fs r : List Value} {q : vw_C} {M : xM} {ws : xH} {Post : xPost} (hM : xnth xMs c = some M) (hs : M.2.2.2.2.2.2 = false) (ha : xnth ws a = some (.inr (ci, fs))) (hq : vwCl[ci]? = some q) (hq2 : q.1 = M.1.cls) (hp : (parseMethodDescriptor M.1.desc).map (fun q => q.parameters.length) = some r.length) (hl : Nat.ble (xsl (.ref a :: r)).length M.2.2.1 = true)
    (h : ∀ G : xK, xG1 M.2.2.2.2.1 G → xG2 M.2.2.2.2.1 M.2.2.2.1 Post G → xG3 xMs M.2.2.2.2.1 (xCt xMs d) G → G 0 (xent (.ref a :: r) M.2.2.1) [] ws) : xCt xMs (d + 1) c (.ref a :: r) ws Post :=
  ⟨M, hM, by rw [hs]; exact ⟨a, ci, fs, r, q, rfl, ha, hq, hq2, hp⟩, hl, h⟩
def fMir (p : Int32) : Int32 := 
  let q := (p &&& 13107) <<< (2 &&& 31) ||| (p &&& 52428) >>> (2 &&& 31)
  (q &&& 21845) <<< (1 &&& 31) ||| (q &&& 43690) >>> (1 &&& 31)
theorem t_mir (d : Nat) (ws : xH) (x : Int32) : xCt xMs (d + 1) nX0_mirrored [.int x] ws (fun v w => v = some (.int (fMir x)) ∧ w = ws) := by
  refine xS (M := mX0_mirrored) rfl rfl pX0_mirrored rfl (fun G g1 g2 g3 => ?_)
  refine xwp_go g1 [] 100 _ _ _ _ ?_
  exact g2.1 _ _ _ _ _ _ _ rfl (Or.inl rfl) ⟨rfl, rfl⟩
abbrev eLan (k f p r u w : Nat → Int32) (sc wc ht : Int32) : xH := [.inr (0, [.ref 1, .ref 2, .ref 3, .ref 4, .ref 5, .ref 6, .int sc, .int wc, .int ht]), .inl (8, k), .inl (8, f), .inl (8, p), .inl (8, r), .inl (8, u), .inl (6, w)]
theorem t_has (d : Nat) (k f p r u w : Nat → Int32) (sc wc ht : Int32) (x : Int32) : xCt xMs (d + 1) nX1_has [.ref 0, .int x] (eLan k f p r u w sc wc ht) (fun v w' => v = some (.int (if 0 ≤ x ∧ x < sc then 1 else 0)) ∧ w' = eLan k f p r u w sc wc ht) := by
  refine xV (M := mX1_has) rfl rfl rfl rfl rfl pX1_has rfl (fun G g1 g2 g3 => ?_)
  refine xwp_go g1 [] 100 _ _ _ _ ?_
  refine And.intro (fun h1 => ?_) (fun h1 => ?_)
  · exact g2.1 _ _ _ _ _ _ _ rfl (Or.inr ⟨rfl, Or.inl rfl⟩) ⟨sorry, rfl⟩
  · refine And.intro (fun h2 => ?_) (fun h2 => ?_)
    · exact g2.1 _ _ _ _ _ _ _ rfl (Or.inr ⟨rfl, Or.inl rfl⟩) ⟨sorry, rfl⟩
    · exact g2.1 _ _ _ _ _ _ _ rfl (Or.inr ⟨rfl, Or.inr rfl⟩) ⟨sorry, rfl⟩
