/-! the letters told; the reference reads numbers and pictures -/
def nxI (T : Nat → Nat) (N i : Nat) : Int32 := if i < N then nI (T i) else -1
def isDg (T : Nat → Nat) (N i : Nat) : Bool := decide (i < N ∧ 48 ≤ T i ∧ T i ≤ 57)
def isCl (T : Nat → Nat) (N i : Nat) : Bool := decide (i < N ∧ (T i = 46 ∨ T i = 35))
/-- how many of the k behind i are digits, cells: till the first that isn't -/
def runN (p : Nat → Bool) : Nat → Nat
  | 0 => 0
  | k + 1 => if runN p k = k ∧ p k = true then k + 1 else runN p k
theorem runN_le (p : Nat → Bool) : ∀ k, runN p k ≤ k
  | 0 => Nat.le_refl _
  | k + 1 => by
    have := runN_le p k
    unfold runN
    split <;> omega
theorem runN_in (p : Nat → Bool) : ∀ k j, j < runN p k → p j = true
  | 0, j, h => absurd h (Nat.not_lt_zero j)
  | k + 1, j, h => by
    unfold runN at h
    split at h
    · next c =>
      by_cases e : j = k
      · rw [e]; exact c.2
      · exact runN_in p k j (by omega)
    · exact runN_in p k j h
theorem runN_out (p : Nat → Bool) : ∀ k, runN p k < k → p (runN p k) = false
  | 0, h => absurd h (Nat.not_lt_zero _)
  | k + 1, h => by
    have hle := runN_le p k
    unfold runN at h ⊢
    split at h
    · omega
    · next c =>
      rw [if_neg c]
      by_cases e : runN p k = k
      · have : ¬ p k = true := fun z => c ⟨e, z⟩
        rw [e]
        simpa using this
      · exact runN_out p k (by omega)
def valN (T : Nat → Nat) (i : Nat) : Nat → Nat
  | 0 => 0
  | k + 1 => 10 * valN T i k + (T (i + k) - 48)
def pcvN (T : Nat → Nat) (i : Nat) : Nat → Nat
  | 0 => 0
  | k + 1 => pcvN T i k ||| (if T (i + k) = 35 then 2 ^ k else 0)
def tapeM (T : Nat → Nat) (N : Nat) (a : Nat → Nat → Int32) (s : Nat → Int32) : Prop := s 3 = nI N ∧ N ≤ 80 ∧ ∀ i, i < N → a 7 i = nI (T i) ∧ T i ≤ 255
theorem nx_dig {T : Nat → Nat} {N i : Nat} (hT : i < N → T i ≤ 255) : inB (nxI T N i) 48 57 = isDg T N i := by
  unfold nxI isDg
  by_cases h : i < N
  · have := hT h
    rw [if_pos h]
    unfold inB
    refine decide_eq_decide.mpr ?_
    rw [show (48 : Int32) = nI 48 from rfl, show (57 : Int32) = nI 57 from rfl, nI_leI (by decide) (by omega), nI_leI (by omega) (by decide)]
    exact ⟨fun z => ⟨h, z⟩, fun z => z.2⟩
  · rw [if_neg h]
    exact (decide_eq_false (by decide)).trans (decide_eq_false (fun z => h z.1)).symm
theorem nx_eq {T : Nat → Nat} {N i c : Nat} (hT : i < N → T i ≤ 255) (hc : c ≤ 255) : nxI T N i = nI c ↔ i < N ∧ T i = c := by
  unfold nxI
  by_cases h : i < N
  · have := hT h
    rw [if_pos h, nI_eq (by omega) (by omega)]
    exact ⟨fun z => ⟨h, z⟩, fun z => z.2⟩
  · rw [if_neg h]
    constructor
    · intro e
      have := nI_pos (n := c) (by omega)
      rw [← e] at this
      exact absurd (by decide) this
    · intro z; exact absurd z.1 h
theorem m_next (d : Nat) {T : Nat → Nat} {N : Nat} {a : Nat → Nat → Int32} {s : Nat → Int32} (ht : tapeM T N a s) {i : Nat} (hi : i < 1000) (h4 : s 4 = nI i) : xCt xMs (d + 1) nX6_next [.ref 0] (eM a s) (xRet (nxI T N i) (eM a s)) := by
  obtain ⟨h3, h80, hT⟩ := ht
  refine xV (M := mX6_next) rfl rfl rfl rfl rfl pX6_next rfl (fun G g1 g2 g3 => ?_)
  unfold nxI at g2
  refine xwp_go g1 [] 100 _ _ _ _ ?_
  refine And.intro (fun h => ?_) (fun h => ?_) <;> rw [h4, h3, nI_leI (by omega) (by omega)] at h
  · rw [if_neg (by omega)] at g2
    exact xri (G := G) g2 rfl rfl rfl
  · rw [if_pos (by omega)] at g2
    refine And.intro (by rw [h4]; exact vp_in_nI (by omega) (by decide)) ?_
    exact xri (G := G) g2 rfl (by rw [h4, nI_clamp (by omega), (hT i (by omega)).1]) rfl
theorem m_readsNumber (d : Nat) {T : Nat → Nat} {N : Nat} {a : Nat → Nat → Int32} {s : Nat → Int32} (ht : tapeM T N a s) {i pl mo : Nat} (hi : i < 900) (h4 : s 4 = nI i) (hp : pl < 128) (hm : mo ≤ 2) (hm1 : 1 ≤ mo) : xCt xMs (d + 2) nX6_readsNumber [.ref 0, .int (nI pl), .int (nI mo)] (eM a s) (fun v w => if isDg T N i = true then v = some (.int 1) ∧ w = eM (aU a 10 (upd (a 10) pl (nI (valN T i (runN (fun k => isDg T N (i + k)) mo))))) (sU s 4 (nI (i + runN (fun k => isDg T N (i + k)) mo))) else v = some (.int 0) ∧ w = eM a s) := by
  have ht' := ht
  obtain ⟨h3, h80, hT⟩ := ht
  have hd : ∀ j, inB (nxI T N j) 48 57 = isDg T N j := fun j => nx_dig (fun h => (hT j h).2)
  refine xV (M := mX6_readsNumber) rfl rfl rfl rfl rfl pX6_readsNumber rfl (fun G g1 g2 g3 => ?_)
  refine xwp_go g1 [] 100 _ _ _ _ ?_
  refine xcM (G := G) g3 (m_next d ht' (i := i) (by omega) h4) ?_
  refine xwp_go g1 [] 100 _ _ _ _ ?_
  refine xcallR (G := G) g3 [] (m_isIn d [] (nxI T N i) 48 57) ?_
  rw [hd]
  cases hdi : isDg T N i with
  | false =>
    refine xwp_go g1 [] 100 _ _ _ _ ?_
    refine And.intro (fun h => absurd rfl h) (fun _ => ?_)
    exact xrz' (G := G) g2 rfl (Or.inl rfl) (by rw [hdi, if_neg (by decide)]; exact ⟨rfl, rfl⟩)
  | true =>
    refine xwp_go g1 [21] 100 _ _ _ _ ?_
    refine And.intro (fun _ => ?_) (fun h => absurd h (by decide))
    have hw := runN_le (fun k => isDg T N (i + k)) mo
    refine up (k := runN (fun k => isDg T N (i + k)) mo) (P := fun k => ∀ x y v, x = nI k → y = nI (valN T i k) → v = nI (i + k) → G 21 [some (.ref 0), some (.int (nI pl)), some (.int (nI mo)), some (.int y), some (.int x)] [] (eM a (sU s 4 v))) ?_ ?_ 0 (Nat.zero_le _) _ _ (s 4) rfl rfl h4
    · intro x y v hx hy hv
      subst hx; subst hy; subst hv
      have leave : ∀ loc, loc = [some (Value.ref 0), some (.int (nI pl)), some (.int (nI mo)), some (.int (nI (valN T i (runN (fun k => isDg T N (i + k)) mo)))), some (.int (nI (runN (fun k => isDg T N (i + k)) mo)))] → G 70 loc [] (eM a (sU s 4 (nI (i + runN (fun k => isDg T N (i + k)) mo)))) := by
        intro loc e
        subst e
        refine xwp_go g1 [] 100 _ _ _ _ ?_
        refine And.intro (vp_in_nI (by omega) (by decide)) ?_
        exact xrz' (G := G) g2 rfl (Or.inr rfl) (by rw [if_pos hdi, nI_clamp (by omega)]; exact ⟨rfl, rfl⟩)
      refine xwp_go g1 [21, 70] 100 _ _ _ _ ?_
      refine And.intro (fun _ => leave _ rfl) (fun h => ?_)
      rw [nI_leI (by omega) (by omega)] at h
      have ho := runN_out (fun k => isDg T N (i + k)) mo (by omega)
      refine xcM (G := G) g3 (m_next d (s := sU s 4 (nI (i + runN (fun k => isDg T N (i + k)) mo))) ht' (i := i + runN (fun k => isDg T N (i + k)) mo) (by omega) rfl) ?_
      refine xwp_go g1 [21, 70] 100 _ _ _ _ ?_
      refine xcallR (G := G) g3 [] (m_isIn d [] _ 48 57) ?_
      rw [hd, show isDg T N (i + runN (fun k => isDg T N (i + k)) mo) = false from ho]
      refine xwp_go g1 [21, 70] 100 _ _ _ _ ?_
      exact And.intro (fun _ => leave _ rfl) (fun h => absurd rfl h)
    · intro k hk ih x y v hx hy hv
      subst hx; subst hy; subst hv
      have hin : isDg T N (i + k) = true := runN_in (fun k => isDg T N (i + k)) mo k hk
      obtain ⟨q1, q2, q3⟩ := of_decide_eq_true hin
      have htk := (hT (i + k) q1).2
      refine xwp_go g1 [21, 70] 100 _ _ _ _ ?_
      refine And.intro (fun h => absurd h (nI_ge (by omega) (by omega))) (fun _ => ?_)
      refine xcM (G := G) g3 (m_next d (s := sU s 4 (nI (i + k))) ht' (i := i + k) (by omega) rfl) ?_
      refine xwp_go g1 [21, 70] 100 _ _ _ _ ?_
      refine xcallR (G := G) g3 [] (m_isIn d [] _ 48 57) ?_
      rw [hd, hin]
      refine xwp_go g1 [21, 70] 100 _ _ _ _ ?_
      refine And.intro (fun h => absurd h (by decide)) (fun _ => ?_)
      refine xcM (G := G) g3 (m_next d (s := sU s 4 (nI (i + k))) ht' (i := i + k) (by omega) rfl) ?_
      rw [show nxI T N (i + k) = nI (T (i + k)) from by unfold nxI; rw [if_pos q1]]
      refine xwp_go g1 [21, 70] 100 _ _ _ _ ?_
      refine ih _ _ _ (nI_1 k) ?_ (nI_1 (i + k))
      rw [show (10 : Int32) = nI 10 from rfl, pk_mul, nI_add, show (48 : Int32) = nI 48 from rfl, pk_sub (by omega)]
      show nI _ = nI (10 * valN T i k + (T (i + k) - 48))
      refine congrArg nI ?_
      omega
theorem m_readsPicture (d : Nat) {T : Nat → Nat} {N : Nat} {a : Nat → Nat → Int32} {s : Nat → Int32} (ht : tapeM T N a s) {i pl : Nat} (hi : i < 900) (h4 : s 4 = nI i) (hp : pl < 128) : xCt xMs (d + 2) nX6_readsPicture [.ref 0, .int (nI pl)] (eM a s) (fun v w => v = some (.int (bI (decide (runN (fun k => isCl T N (i + k)) 16 = 16)))) ∧ ∃ f, (∀ j, f j = if j = pl then nI (pcvN T i (runN (fun k => isCl T N (i + k)) 16)) else a 10 j) ∧ w = eM (aU a 10 f) (sU s 4 (nI (i + runN (fun k => isCl T N (i + k)) 16)))) := by
  have ht' := ht
  obtain ⟨h3, h80, hT⟩ := ht
  have cl : (nI pl).toNatClampNeg = pl := nI_clamp (by omega)
  have hin : vp_in (nI pl) 128 := vp_in_nI hp (by decide)
  refine xV (M := mX6_readsPicture) rfl rfl rfl rfl rfl pX6_readsPicture rfl (fun G g1 g2 g3 => ?_)
  refine xwp_go g1 [9] 100 _ _ _ _ ?_
  refine And.intro hin ?_
  have hw := runN_le (fun k => isCl T N (i + k)) 16
  refine up (k := runN (fun k => isCl T N (i + k)) 16) (P := fun k => ∀ x f v, x = nI k → (∀ j, f j = if j = pl then nI (pcvN T i k) else a 10 j) → v = nI (i + k) → G 9 [some (.ref 0), some (.int (nI pl)), some (.int x)] [] (eM (aU a 10 f) (sU s 4 v))) ?_ ?_ 0 (Nat.zero_le _) _ (upd (a 10) (nI pl).toNatClampNeg 0) (s 4) rfl (fun j => by rw [cl, upd_at]; rfl) h4
  · intro x f v hx hf hv
    subst hx; subst hv
    by_cases e : runN (fun k => isCl T N (i + k)) 16 = 16
    · refine xwp_go g1 [9] 100 _ _ _ _ ?_
      refine And.intro (fun _ => ?_) (fun h => absurd (by rw [e]; decide) h)
      exact xrz' (G := G) g2 rfl (Or.inr rfl) ⟨by rw [decide_eq_true e]; rfl, f, hf, rfl⟩
    · have ho : isCl T N (i + runN (fun k => isCl T N (i + k)) 16) = false := runN_out (fun k => isCl T N (i + k)) 16 (by omega)
      have ho := of_decide_eq_false ho
      rw [decide_eq_false e] at g2
      generalize runN (fun k => isCl T N (i + k)) 16 = w at *
      refine xwp_go g1 [9] 100 _ _ _ _ ?_
      refine And.intro (fun h => absurd h (nI_ge (b := 16) (by omega) (by decide))) (fun _ => ?_)
      refine xcM (G := G) g3 (m_next d (a := aU a 10 f) (s := sU s 4 (nI (i + w))) ht' (i := i + w) (by omega) rfl) ?_
      refine xwp_go g1 [9] 100 _ _ _ _ ?_
      refine And.intro (fun h => ?_) (fun _ => ?_)
      · rw [show (46 : Int32) = nI 46 from rfl, nx_eq (fun h => (hT _ h).2) (by decide)] at h
        exact absurd ⟨h.1, Or.inl h.2⟩ ho
      refine xcM (G := G) g3 (m_next d (a := aU a 10 f) (s := sU s 4 (nI (i + w))) ht' (i := i + w) (by omega) rfl) ?_
      refine xwp_go g1 [9] 100 _ _ _ _ ?_
      refine And.intro (fun h => ?_) (fun _ => ?_)
      · rw [show (35 : Int32) = nI 35 from rfl, nx_eq (fun h => (hT _ h).2) (by decide)] at h
        exact absurd ⟨h.1, Or.inr h.2⟩ ho
      exact xrz' (G := G) g2 rfl (Or.inl rfl) ⟨rfl, f, hf, rfl⟩
  · intro k hk ih x f v hx hf hv
    subst hx; subst hv
    have hin2 : isCl T N (i + k) = true := runN_in (fun k => isCl T N (i + k)) 16 k hk
    obtain ⟨q1, q2⟩ := of_decide_eq_true hin2
    have body : G 35 [some (.ref 0), some (.int (nI pl)), some (.int (nI k))] [] (eM (aU a 10 f) (sU s 4 (nI (i + k)))) := by
      refine xwp_go g1 [9] 100 _ _ _ _ ?_
      refine And.intro hin ?_
      refine xcM (G := G) g3 (m_next d (a := aU a 10 f) (s := sU s 4 (nI (i + k))) ht' (i := i + k) (by omega) rfl) ?_
      refine xwp_go g1 [9] 100 _ _ _ _ ?_
      have hpl : f (nI pl).toNatClampNeg = nI (pcvN T i k) := by rw [cl, hf, if_pos rfl]
      refine And.intro (fun h => ?_) (fun h => ?_) <;> rw [show (35 : Int32) = nI 35 from rfl, nx_eq (fun h => (hT _ h).2) (by decide)] at h
      · refine And.intro hin ?_
        refine ih _ (upd f (nI pl).toNatClampNeg (f (nI pl).toNatClampNeg ||| 0)) _ (nI_1 k) (fun j => ?_) (nI_1 (i + k))
        rw [hpl, cl, upd_at, hf j]
        by_cases e : j = pl
        · rw [if_pos e, if_pos e]
          show nI (pcvN T i k) ||| nI 0 = nI (pcvN T i k ||| (if T (i + k) = 35 then 2 ^ k else 0))
          rw [fa_or, if_neg (fun z => h ⟨q1, z⟩)]
        · rw [if_neg e, if_neg e, if_neg e]
      · refine And.intro hin ?_
        refine ih _ (upd f (nI pl).toNatClampNeg (f (nI pl).toNatClampNeg ||| (1 : Int32) <<< (nI k &&& 31))) _ (nI_1 k) (fun j => ?_) (nI_1 (i + k))
        rw [hpl, cl, upd_at, hf j]
        by_cases e : j = pl
        · rw [if_pos e, if_pos e, nI_pow (by omega), fa_or]
          show _ = nI (pcvN T i k ||| (if T (i + k) = 35 then 2 ^ k else 0))
          rw [if_pos h.2]
        · rw [if_neg e, if_neg e, if_neg e]
    refine xwp_go g1 [9, 35] 100 _ _ _ _ ?_
    refine And.intro (fun h => absurd h (nI_ge (b := 16) (by omega) (by decide))) (fun _ => ?_)
    refine xcM (G := G) g3 (m_next d (a := aU a 10 f) (s := sU s 4 (nI (i + k))) ht' (i := i + k) (by omega) rfl) ?_
    refine xwp_go g1 [9, 35] 100 _ _ _ _ ?_
    refine And.intro (fun _ => body) (fun h => ?_)
    rw [show (46 : Int32) = nI 46 from rfl, nx_eq (fun h => (hT _ h).2) (by decide)] at h
    refine xcM (G := G) g3 (m_next d (a := aU a 10 f) (s := sU s 4 (nI (i + k))) ht' (i := i + k) (by omega) rfl) ?_
    refine xwp_go g1 [9, 35] 100 _ _ _ _ ?_
    refine And.intro (fun _ => body) (fun h2 => ?_)
    rw [show (35 : Int32) = nI 35 from rfl, nx_eq (fun h => (hT _ h).2) (by decide)] at h2
    rcases q2 with e | e
    · exact absurd ⟨q1, e⟩ h
    · exact absurd ⟨q1, e⟩ h2
