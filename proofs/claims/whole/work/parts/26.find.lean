/-! fewest, cheapest, near, can, worth: by going through all sets and all that is turned over; the reference's -/
def subB (o s : Nat) : Bool := decide (o ^^^ (o &&& s) = 0)
def rowE (s : Nat) (k : Nat) : List (Nat × Nat) := ((List.range k).filter (fun o => subB o s)).map (fun o => (s, o))
def preE (k : Nat) : List (Nat × Nat) := (List.range k).flatMap (fun s => rowE s (s + 1))
def allE (n : Nat) : List (Nat × Nat) := preE (2 ^ n)
/-- nearness; cheapest; fewest: how many, the set, turned over, ways -/
abbrev FT : Type := Nat × Option Nat × Option (Nat × Nat × Nat × Nat)
def tell (q : LQ) (p : Nat) (T : FT) (e : Nat × Nat) : FT :=
  let un := pop (laidQ q e.1 e.2 ^^^ p)
  let nr := if un < T.1 then un else T.1
  if 0 < un then (nr, T.2.1, T.2.2) else
  (nr, (match T.2.1 with
    | none => some (costL q e.1 (q 6 0))
    | some c => some (if costL q e.1 (q 6 0) < c then costL q e.1 (q 6 0) else c)),
   match T.2.2 with
    | none => some (pop e.1, e.1, e.2, 1)
    | some (k, s, o, w) => if k < pop e.1 then some (k, s, o, w) else if pop e.1 = k then some (k, s, o, w + 1) else some (pop e.1, e.1, e.2, 1))
def findQ (q : LQ) (p : Nat) : FT := (allE (q 6 0)).foldl (tell q p) (16, none, none)
def optI (x : Option Nat) : Int32 := match x with
  | none => -9
  | some c => nI c
def fewI (x : Option (Nat × Nat × Nat × Nat)) (w : Nat) : Int32 := match x with
  | none => -9
  | some (k, s, o, c) => match w with
    | 0 => nI k
    | 1 => nI s
    | 2 => nI o
    | _ => nI c
/-- the numbers that findShown leaves -/
def encT (T : FT) (s : Nat → Int32) : Prop := s 14 = nI T.1 ∧ s 13 = optI T.2.1 ∧ s 9 = fewI T.2.2 0 ∧ s 10 = fewI T.2.2 1 ∧ s 11 = fewI T.2.2 2 ∧ s 12 = fewI T.2.2 3
def okT (T : FT) : Prop := T.1 ≤ 16 ∧ (∀ c, T.2.1 = some c → c ≤ 1000) ∧ ∀ k s o w, T.2.2 = some (k, s, o, w) → k ≤ 16
theorem cost_le {q : LQ} (h : okS q) (set : Nat) : ∀ n, n ≤ q 6 0 → costL q set n ≤ 99 * n
  | 0, _ => Nat.le_refl _
  | n + 1, hn => by
    have ih := cost_le h set n (by omega)
    have := (h.2.2.2.2.1 n (by omega)).2.2.2.1
    show costL q set n + (if set.testBit n then q 3 n else 0) ≤ 99 * (n + 1)
    split <;> omega
theorem tell_ok {q : LQ} (h : okS q) {p : Nat} {T : FT} (hT : okT T) (e : Nat × Nat) : okT (tell q p T e) := by
  obtain ⟨h1, h2, h3⟩ := hT
  have hc := cost_le h e.1 (q 6 0) (Nat.le_refl _)
  have h8 := h.1
  have hp := pop_le e.1
  have hu := pop_le (laidQ q e.1 e.2 ^^^ p)
  unfold tell
  dsimp only
  split
  · exact ⟨by show (if _ then _ else _) ≤ 16; split <;> omega, h2, h3⟩
  · refine ⟨by show (if _ then _ else _) ≤ 16; split <;> omega, fun c hcc => ?_, fun k s o w hk => ?_⟩
    · dsimp only at hcc
      split at hcc
      · cases hcc; omega
      · next c0 hc0 =>
        have := h2 c0 hc0
        cases hcc
        split <;> omega
    · dsimp only at hk
      split at hk
      · cases hk; omega
      · next k0 s0 o0 w0 hk0 =>
        have := h3 _ _ _ _ hk0
        split at hk
        · cases hk; exact this
        · split at hk
          · cases hk; exact this
          · cases hk; exact hp
theorem m_tellsShown (d : Nat) {q : LQ} {a : Nat → Nat → Int32} {s : Nat → Int32} (hr : relS q a s) {p set over : Nat} (hp : p < 65536) (hs : set < 256) (ho : over < 256) {T : FT} (hT : encT T s) (hk : okT T) : xCt xMs (d + 4) nX6_tellsShown [.ref 0, .int (nI p), .int (nI set), .int (nI over)] (eM a s) (fun v w => v = none ∧ ∃ s', encT (tell q p T (set, over)) s' ∧ (∀ r, r < 9 ∨ 15 ≤ r → s' r = s r) ∧ w = eM a s') := by
  obtain ⟨t14, t13, t9, t10, t11, t12⟩ := hT
  obtain ⟨k1, k2, k3⟩ := hk
  have h8 := hr.1.1
  have hla := laidQ_lt hr.1 set over
  have hx : laidQ q set over ^^^ p < 65536 := Nat.xor_lt_two_pow (n := 16) hla hp
  have hu := pop_le (laidQ q set over ^^^ p)
  have hc := cost_le hr.1 set (q 6 0) (Nat.le_refl _)
  have hps := pop_le set
  have ex : nI (laidQ q set over) ^^^ nI p = nI (laidQ q set over ^^^ p) := fb_xorI _ _
  refine xV (M := mX6_tellsShown) rfl rfl rfl rfl rfl pX6_tellsShown rfl (fun G g1 g2 g3 => ?_)
  unfold tell at g2
  dsimp only at g2
  refine xwp_go g1 [] 100 _ _ _ _ ?_
  refine xcM (G := G) g3 (m_laid d hr (set := set) (over := over) (by omega) (by omega)) ?_
  refine xwp_go g1 [] 100 _ _ _ _ ?_
  refine xcallR (G := G) g3 [] (ag1 ex (m_bits (d + 2) [] hx)) ?_
  generalize pop (laidQ q set over ^^^ p) = un at g2 hu
  have tail : ∀ (v : Int32) (z5 z6 : Option Value), v = nI (if un < T.1 then un else T.1) → G 35 [some (.ref 0), some (.int (nI p)), some (.int (nI set)), some (.int (nI over)), some (.int (nI un)), z5, z6] [] (eM a (sU s 14 v)) := by
    intro v z5 z6 hv
    refine xwp_go g1 [] 100 _ _ _ _ ?_
    refine And.intro (fun h => ?_) (fun h => ?_) <;> rw [show (0 : Int32) = nI 0 from rfl, nI_leI (by omega) (by decide)] at h
    · rw [if_neg (show ¬ 0 < un by omega)] at g2
      refine xcM (G := G) g3 (m_pricesOf (d + 2) (s := sU s 14 v) hr (set := set) (by omega)) ?_
      generalize costL q set (q 6 0) = co at g2 hc
      have tail2 : ∀ (u : Int32) (z6 : Option Value), u = optI (match T.2.1 with
          | none => some co
          | some c => some (if co < c then co else c)) → G 77 [some (.ref 0), some (.int (nI p)), some (.int (nI set)), some (.int (nI over)), some (.int (nI un)), some (.int (nI co)), z6] [] (eM a (sU (sU s 14 v) 13 u)) := by
        intro u z6 hu'
        refine xwp_go g1 [] 100 _ _ _ _ ?_
        refine xcallR (G := G) g3 [] (m_bits (d + 2) [] (p := set) (by omega)) ?_
        refine xwp_go g1 [] 100 _ _ _ _ ?_
        have keep : ∀ (s' : Nat → Int32), (s' = sU (sU s 14 v) 13 u) → ∀ r, r < 9 ∨ 15 ≤ r → s' r = s r := by
          intro s' e r hr9
          rw [e, sU_ne (by omega), sU_ne (by omega)]
        have keep4 : ∀ (x9 x10 x11 x12 : Int32), ∀ r, r < 9 ∨ 15 ≤ r → sU (sU (sU (sU (sU (sU s 14 v) 13 u) 9 x9) 10 x10) 11 x11) 12 x12 r = s r := by
          intro x9 x10 x11 x12 r hr9
          rw [sU_ne (by omega), sU_ne (by omega), sU_ne (by omega), sU_ne (by omega), sU_ne (by omega), sU_ne (by omega)]
        cases hf : T.2.2 with
        | none =>
          rw [hf] at g2 t9 t10 t11 t12
          refine And.intro (fun _ => ?_) (fun h => absurd (show s 9 < 0 by rw [t9]; decide) h)
          refine And.intro (fun _ => ?_) (fun h => ?_)
          · refine xrv' (G := G) g2 rfl ⟨rfl, sU (sU (sU (sU (sU (sU s 14 v) 13 u) 9 (nI (pop set))) 10 (nI set)) 11 (nI over)) 12 1, ⟨hv, hu', rfl, rfl, rfl, rfl⟩, keep4 _ _ _ _, rfl⟩
          · have h : nI (pop set) = s 9 := h
            rw [t9] at h
            have := nI_pos (n := pop set) (by omega)
            rw [h] at this
            exact absurd (by decide) this
        | some t =>
          obtain ⟨k, s0, o0, w0⟩ := t
          rw [hf] at g2 t9 t10 t11 t12
          have hk16 := k3 _ _ _ _ hf
          have t9 : s 9 = nI k := t9
          refine And.intro (fun h => absurd (show s 9 < 0 from h) (by rw [t9]; exact nI_pos (by omega))) (fun _ => ?_)
          refine And.intro (fun h => ?_) (fun h => ?_)
          · have h : nI (pop set) ≤ s 9 := h
            rw [t9, nI_leI (by omega) (by omega)] at h
            dsimp only at g2
            rw [if_neg (show ¬ k < pop set by omega)] at g2
            refine And.intro (fun h' => ?_) (fun h' => ?_)
            · have h' : ¬ nI (pop set) = s 9 := h'
              rw [t9, nI_eq (by omega) (by omega)] at h'
              rw [if_neg h'] at g2
              exact xrv' (G := G) g2 rfl ⟨rfl, sU (sU (sU (sU (sU (sU s 14 v) 13 u) 9 (nI (pop set))) 10 (nI set)) 11 (nI over)) 12 1, ⟨hv, hu', rfl, rfl, rfl, rfl⟩, keep4 _ _ _ _, rfl⟩
            · have h' : nI (pop set) = s 9 := h'
              rw [t9, nI_eq (by omega) (by omega)] at h'
              rw [if_pos h'] at g2
              refine xrv' (G := G) g2 rfl ⟨rfl, sU (sU (sU s 14 v) 13 u) 12 (s 12 + 1), ⟨hv, hu', t9, t10, t11, ?_⟩, fun r hr9 => ?_, rfl⟩
              · show s 12 + 1 = nI (w0 + 1)
                rw [t12]
                exact nI_1 w0
              · rw [sU_ne (by omega), sU_ne (by omega), sU_ne (by omega)]
          · have h : ¬ nI (pop set) ≤ s 9 := h
            rw [t9, nI_leI (by omega) (by omega)] at h
            dsimp only at g2
            rw [if_pos (show k < pop set by omega)] at g2
            exact xrv' (G := G) g2 rfl ⟨rfl, sU (sU s 14 v) 13 u, ⟨hv, hu', t9, t10, t11, t12⟩, keep _ rfl, rfl⟩
      refine xwp_go g1 [77] 100 _ _ _ _ ?_
      cases hch : T.2.1 with
      | none =>
        rw [hch] at t13 tail2
        refine And.intro (fun _ => ?_) (fun h => absurd (show s 13 < 0 by rw [t13]; decide) h)
        exact tail2 (nI co) _ rfl
      | some c =>
        rw [hch] at t13 tail2
        have hc10 := k2 c hch
        have t13 : s 13 = nI c := t13
        refine And.intro (fun h => absurd (show s 13 < 0 from h) (by rw [t13]; exact nI_pos (by omega))) (fun _ => ?_)
        refine And.intro (fun h => ?_) (fun h => ?_)
        · have h : s 13 ≤ nI co := h
          rw [t13, nI_leI (by omega) (by omega)] at h
          exact tail2 (s 13) _ (by dsimp only; rw [if_neg (by omega)]; exact t13)
        · have h : ¬ s 13 ≤ nI co := h
          rw [t13, nI_leI (by omega) (by omega)] at h
          exact tail2 (nI co) _ (by dsimp only; rw [if_pos (by omega)]; rfl)
    · rw [if_pos (show 0 < un by omega)] at g2
      refine xrv' (G := G) g2 rfl ⟨rfl, sU s 14 v, ⟨hv, t13, t9, t10, t11, t12⟩, fun r hr9 => sU_ne (by omega), rfl⟩
  refine xwp_go g1 [35] 100 _ _ _ _ ?_
  refine And.intro (fun h => ?_) (fun h => ?_) <;> rw [t14, nI_leI (by omega) (by omega)] at h
  · exact tail (s 14) _ _ (by rw [if_neg (by omega)]; exact t14)
  · exact tail (nI un) _ _ (by rw [if_pos (by omega)])
theorem fold_ok {q : LQ} (h : okS q) {p : Nat} : ∀ (l : List (Nat × Nat)) (T : FT), okT T → okT (l.foldl (tell q p) T)
  | [], _, hT => hT
  | e :: l, T, hT => fold_ok h l _ (tell_ok h hT e)
theorem T0_ok : okT (16, none, none) := ⟨Nat.le_refl _, fun c hc => (by cases hc), fun k s o w hk => (by cases hk)⟩
theorem rowE_s {s k : Nat} (h : subB k s = true) : rowE s (k + 1) = rowE s k ++ [(s, k)] := by
  unfold rowE
  rw [List.range_succ, List.filter_append, List.map_append]
  simp [h]
theorem rowE_n {s k : Nat} (h : subB k s = false) : rowE s (k + 1) = rowE s k := by
  unfold rowE
  rw [List.range_succ, List.filter_append, List.map_append]
  simp [h]
theorem preE_s (k : Nat) : preE (k + 1) = preE k ++ rowE k (k + 1) := by
  unfold preE
  rw [List.range_succ, List.flatMap_append]
  simp
theorem m_findShown (d : Nat) {q : LQ} {a : Nat → Nat → Int32} {s : Nat → Int32} (hr : relS q a s) {p : Nat} (hp : p < 65536) : xCt xMs (d + 5) nX6_findShown [.ref 0, .int (nI p)] (eM a s) (fun v w => v = none ∧ ∃ s', encT (findQ q p) s' ∧ (∀ r, r < 9 ∨ 15 ≤ r → s' r = s r) ∧ w = eM a s') := by
  have h8 := hr.1.1
  have hl := lt256 hr.1
  have h0 := hr.2.2.2.1
  refine xV (M := mX6_findShown) rfl rfl rfl rfl rfl pX6_findShown rfl (fun G g1 g2 g3 => ?_)
  refine xwp_go g1 [38] 100 _ _ _ _ ?_
  refine up (k := 2 ^ q 6 0) (P := fun i => ∀ x z s1, x = nI i → encT ((preE i).foldl (tell q p) (16, none, none)) s1 → (∀ r, r < 9 ∨ 15 ≤ r → s1 r = s r) → G 38 [some (.ref 0), some (.int (nI p)), some (.int x), z] [] (eM a s1)) ?_ ?_ 0 (Nat.zero_le _) _ _ (sU (sU (sU (sU (sU (sU s 9 (-9)) 10 (-9)) 11 (-9)) 12 (-9)) 13 (-9)) 14 16) rfl ⟨rfl, rfl, rfl, rfl, rfl, rfl⟩ (fun r hr9 => by rw [sU_ne (by omega), sU_ne (by omega), sU_ne (by omega), sU_ne (by omega), sU_ne (by omega), sU_ne (by omega)])
  · intro x z s1 hx hT hs1
    subst hx
    have e0 : s1 0 = nI (q 6 0) := by rw [hs1 0 (by omega)]; exact h0
    refine xwp_go g1 [38] 100 _ _ _ _ ?_
    refine And.intro (fun _ => ?_) (fun h => ?_)
    · exact xrv' (G := G) g2 rfl ⟨rfl, s1, hT, hs1, rfl⟩
    · rw [e0, nI_pow (by omega)] at h
      exact absurd (nI_le (Nat.le_refl _) (by omega)) h
  · intro i hi ih x z s1 hx hT hs1
    subst hx
    have e0 : s1 0 = nI (q 6 0) := by rw [hs1 0 (by omega)]; exact h0
    refine xwp_go g1 [50] 100 _ _ _ _ ?_
    refine And.intro (fun h => ?_) (fun _ => ?_)
    · rw [e0, nI_pow (by omega)] at h
      exact absurd h (nI_ge hi (by omega))
    refine up (k := i + 1) (P := fun o => ∀ x s1, x = nI o → encT ((preE i ++ rowE i o).foldl (tell q p) (16, none, none)) s1 → (∀ r, r < 9 ∨ 15 ≤ r → s1 r = s r) → G 50 [some (.ref 0), some (.int (nI p)), some (.int (nI i)), some (.int x)] [] (eM a s1)) ?_ ?_ 0 (Nat.zero_le _) _ s1 rfl (by rw [show rowE i 0 = [] from rfl, List.append_nil]; exact hT) hs1
    · intro x s1 hx hT hs1
      subst hx
      refine xwp_go g1 [38, 50] 100 _ _ _ _ ?_
      refine And.intro (fun _ => ?_) (fun h => absurd (nI_lt (Nat.lt_succ_self i) (by omega)) h)
      exact ih _ _ s1 (nI_1 i) (by rw [preE_s]; exact hT) hs1
    · intro o ho iho x s1 hx hT hs1
      subst hx
      refine xwp_go g1 [38, 50] 100 _ _ _ _ ?_
      refine And.intro (fun h => absurd h (nI_nlt (by omega) (by omega))) (fun _ => ?_)
      have hlt : o ^^^ (o &&& i) < 256 := Nat.xor_lt_two_pow (n := 8) (show o < 2 ^ 8 by omega) (Nat.lt_of_le_of_lt Nat.and_le_left (show o < 2 ^ 8 by omega))
      refine And.intro (fun h => ?_) (fun h => ?_) <;> rw [nI_andn, show (0 : Int32) = nI 0 from rfl, nI_eq (by omega) (by decide)] at h
      · exact iho _ s1 (nI_1 o) (by rw [rowE_n (decide_eq_false h)]; exact hT) hs1
      · have hrel : relS q a s1 := by
          obtain ⟨q1, q2, q3, q4, q5, q6⟩ := hr
          exact ⟨q1, q2, q3, by rw [hs1 0 (by omega)]; exact q4, by rw [hs1 1 (by omega)]; exact q5, by rw [hs1 2 (by omega)]; exact q6⟩
        refine xcMP (G := G) g3 (m_tellsShown d hrel hp (set := i) (over := o) (by omega) (by omega) hT (fold_ok hr.1 _ _ T0_ok)) (fun v w hp => ⟨_, _, hp.2.choose_spec.2.2⟩) (fun v a' s' hpp => ?_)
        obtain ⟨rfl, s2, t1, t2, t3⟩ := hpp
        rw [t3]
        refine xwp_go g1 [38, 50] 100 _ _ _ _ ?_
        refine iho _ s2 (nI_1 o) ?_ (fun r hr9 => by rw [t2 r hr9, hs1 r hr9])
        rw [rowE_s (decide_eq_true h), ← List.append_assoc, List.foldl_append]
        exact t1
