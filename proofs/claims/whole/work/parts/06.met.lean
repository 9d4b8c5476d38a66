/-! a contract of the abstract machine is one of the real machine's -/
def xMOk (Ts nl : List Cond) (Ms : List xM) (M : xM) : Prop :=
  plainName M.1.cls = true ∧ Cond.code M.1 M.2.1 M.2.2.1 M.2.2.2.1 ∈ Ts ∧ M.2.2.1 ≤ 40 ∧ xtok M.2.1 M.2.2.2.2.2.1 M.2.2.2.2.1 = true ∧ M.2.2.2.2.2.1.1 = M.1.cls ∧ Cond.initialized M.1.cls ∈ Ts ∧ (M.2.2.2.2.2.2 = true → Cond.static M.1 ∈ Ts) ∧ (M.2.2.2.2.2.2 = false → Cond.instanceMethod M.1 ∈ Ts ∧ Cond.selects M.1.cls M.1 M.1 ∈ Ts) ∧ (M.1.cls ≠ "java/lang/invoke/MethodHandle" ∧ M.1.cls ≠ "java/lang/invoke/VarHandle") ∧ xCOk Ts nl Ms M.2.2.2.2.2.1
def xOK (Ts nl : List Cond) (Ms : List xM) : Prop := (∀ w ∈ Ts, goodWord w = true) ∧ (∀ w ∈ nl, ∃ a i b n d h, w = Cond.fieldLinkNest a i b n d h) ∧ ∀ c M, xnth Ms c = some M → c ≠ 0 → xMOk Ts nl Ms M
def xRm (d : Nat) : Room := { frames := d, cells := 0, slots := 0, locals := 60 * d }
def xNw (nl : List Cond) (U : State) : Prop := ∀ w ∈ nl, va_Nw w U
def xPc (nl : List Cond) (D : va_G) (cI : ClassId) (ad : Nat → Nat) (as : List Value) (ws : xH) (sz : Nat) : Array Value → State → Prop := va_Pc (as.map (xcV ad)) (fun U => U.heap.size = sz ∧ va_P D vwCl (xcH ad cI 0 ws) U.heap ∧ va_K D vwCl [(cI, .int)] U ∧ va_D (fun _ => True) (xcH ad cI 0 ws) ∧ xNw nl U)
def xQc (D : va_G) (cI : ClassId) (ad : Nat → Nat) (ws : xH) (sz : Nat) (Post : xPost) : Array Value → State → Outcome → State → Prop := fun _ st oc t => (∃ (v : Option Value) (ws' : xH), oc = .returned v ∧ xnum v ∧ Post v ws' ∧ ws'.length = ws.length ∧ va_P D vwCl (xcH ad cI 0 ws') t.heap) ∧ va_F (va_A (xcH ad cI 0 ws) sz) st t
theorem xtok_e {code : ByteArray} {K : xC} {tb : xT} {pc : Nat} {i : xI} (h : xtok code K tb = true) (hi : xlk tb pc = some i) : decode code pc = .ok (i.1, i.2.1) ∧ xok K pc i = true := by
  have h1 := List.all_eq_true.mp h _ (xlk_mem hi)
  obtain ⟨h2, h3⟩ := xb2 h1
  exact ⟨of_decide_eq_true h2, h3⟩
theorem xcV_r (ad : Nat → Nat) (pl : List Nat) (v : Value) : xcV ad (xrV pl v) = xcV (fun j => ad ((xnth pl j).getD 0)) v := by cases v <;> rfl
theorem xcE_r (ad : Nat → Nat) (cI : ClassId) (pl : List Nat) (e : xE) : xcE ad cI (xrE pl e) = xcE (fun j => ad ((xnth pl j).getD 0)) cI e := by
  rcases e with ⟨n, f⟩ | ⟨c, fs⟩
  · rfl
  · simp only [xrE, xcE, List.map_map]
    congr 2
    exact List.map_congr_left (fun v _ => xcV_r ad pl v)
theorem xsub_e {pl : List Nat} {wc ws : xH} (h : xsub pl wc ws) : pl.length = wc.length ∧ ∀ (j : Nat) (e : xE), xnth wc j = some e → ∃ p, pl[j]? = some p ∧ xnth ws p = some (xrE pl e) := by
  unfold xsub at h
  refine ⟨by simpa using congrArg List.length h, fun j e he => ?_⟩
  have h1 : (wc.map (fun e => some (xrE pl e)))[j]? = some (some (xrE pl e)) := by rw [List.getElem?_map, ← xnth_eq, he]; rfl
  rw [← h, List.getElem?_map] at h1
  cases hp : pl[j]? with
  | none => rw [hp] at h1; cases h1
  | some p => rw [hp] at h1; exact ⟨p, rfl, Option.some.inj h1⟩
theorem xput_len (pl : List Nat) : ∀ (ps : List Nat) (es ws : xH), (xput pl ps es ws).length = ws.length
  | [], _, _ => rfl
  | _ :: _, [], _ => rfl
  | p :: ps, e :: es, ws => by
    unfold xput
    rw [xput_len pl ps es, List.length_set]
theorem xput_out (pl : List Nat) : ∀ (ps : List Nat) (es ws : xH) (k : Nat), k ∉ ps → xnth (xput pl ps es ws) k = xnth ws k
  | [], _, _, _, _ => rfl
  | _ :: _, [], _, _, _ => rfl
  | p :: ps, e :: es, ws, k, h => by
    unfold xput
    rw [xput_out pl ps es _ k (fun q => h (List.mem_cons_of_mem _ q)), xnth_eq, xnth_eq, List.getElem?_set_ne]
    exact fun q => h (by rw [q]; exact List.mem_cons_self)
theorem xput_in (pl : List Nat) : ∀ (ps : List Nat) (es ws : xH) (j p : Nat) (e : xE), va_nd ps = true → ps[j]? = some p → es[j]? = some e → p < ws.length → xnth (xput pl ps es ws) p = some (xrE pl e)
  | [], _, _, _, _, _, _, h, _, _ => by simp at h
  | _ :: _, [], _, _, _, _, _, _, h, _ => by simp at h
  | p0 :: ps, e0 :: es, ws, 0, p, e, hn, h1, h2, h3 => by
    simp only [List.getElem?_cons_zero, Option.some.injEq] at h1 h2
    subst h1; subst h2
    simp only [va_nd, Bool.and_eq_true, decide_eq_true_eq] at hn
    unfold xput
    rw [xput_out pl ps es _ _ hn.1, xnth_eq, List.getElem?_set_self h3]
  | p0 :: ps, e0 :: es, ws, j + 1, p, e, hn, h1, h2, h3 => by
    rw [List.getElem?_cons_succ] at h1 h2
    simp only [va_nd, Bool.and_eq_true, decide_eq_true_eq] at hn
    unfold xput
    exact xput_in pl ps es _ j p e hn.2 h1 h2 (by rw [List.length_set]; exact h3)
theorem xnth_lt {α : Type} {l : List α} {k : Nat} {a : α} (h : xnth l k = some a) : k < l.length := by
  rw [xnth_eq] at h
  exact (List.getElem?_eq_some_iff.mp h).1
theorem xnth_of_lt {α : Type} {l : List α} {k : Nat} (h : k < l.length) : ∃ a, xnth l k = some a := ⟨l[k], by rw [xnth_eq]; exact List.getElem?_eq_getElem h⟩
section XC
variable {D : va_G} {A : Nat → Prop} {ad : Nat → Nat} {cI : ClassId} {pl : List Nat} {wc ws : xH} {H H1 : Heap}
theorem xc_P (hs : xsub pl wc ws) (hP : va_P D vwCl (xcH ad cI 0 ws) H) : va_P D vwCl (xcH (fun j => ad ((xnth pl j).getD 0)) cI 0 wc) H := by
  intro k q hq
  obtain ⟨e, h1, rfl⟩ := xcH_of hq
  obtain ⟨p, h2, h3⟩ := (xsub_e hs).2 k e h1
  have h4 := hP p _ (xcH_at h3)
  rw [xcE_r] at h4
  rw [show (xnth pl k).getD 0 = p by rw [xnth_eq, h2]; rfl]
  exact h4
theorem xc_D (hs : xsub pl wc ws) (hn : va_nd pl = true) (hD : va_D A (xcH ad cI 0 ws)) : va_D A (xcH (fun j => ad ((xnth pl j).getD 0)) cI 0 wc) := by
  refine ⟨fun i j x y hx hy hxy => ?_, fun k q hq => ?_⟩
  · obtain ⟨e1, h1, rfl⟩ := xcH_of hx
    obtain ⟨e2, h2, rfl⟩ := xcH_of hy
    obtain ⟨p1, g1, g2⟩ := (xsub_e hs).2 i e1 h1
    obtain ⟨p2, g3, g4⟩ := (xsub_e hs).2 j e2 h2
    have e := hD.1 p1 p2 _ _ (xcH_at g2) (xcH_at g4) (by
      have : ad ((xnth pl i).getD 0) = ad ((xnth pl j).getD 0) := hxy
      rw [show (xnth pl i).getD 0 = p1 by rw [xnth_eq, g1]; rfl, show (xnth pl j).getD 0 = p2 by rw [xnth_eq, g3]; rfl] at this
      exact this)
    subst e
    exact va_nd_inj pl hn i j p1 g1 g3
  · obtain ⟨e1, h1, rfl⟩ := xcH_of hq
    obtain ⟨p1, g1, g2⟩ := (xsub_e hs).2 k e1 h1
    have h3 := hD.2 p1 _ (xcH_at g2)
    rw [show (xnth pl k).getD 0 = p1 by rw [xnth_eq, g1]; rfl]
    exact h3
theorem xc_A (hs : xsub pl wc ws) {q sz : Nat} (h : va_A (xcH (fun j => ad ((xnth pl j).getD 0)) cI 0 wc) sz q) : (∃ p e, p ∈ pl ∧ xnth ws p = some e ∧ q = ad p) ∨ sz ≤ q := by
  rcases h with ⟨k, e, h⟩ | h
  · obtain ⟨e1, h1, h2⟩ := xcH_of h
    obtain ⟨p1, g1, g2⟩ := (xsub_e hs).2 k e1 h1
    refine Or.inl ⟨p1, _, List.mem_of_getElem? g1, g2, ?_⟩
    have h3 : q = ad ((xnth pl k).getD 0) := congrArg Prod.fst h2
    rw [h3, show (xnth pl k).getD 0 = p1 by rw [xnth_eq, g1]; rfl]
  · exact Or.inr h
theorem xc_J (hs : xsub pl wc ws) (hn : va_nd pl = true) (hP : va_P D vwCl (xcH ad cI 0 ws) H) (hD : va_D A (xcH ad cI 0 ws)) {wc' : xH} (hl : wc'.length = wc.length) (hP1 : va_P D vwCl (xcH (fun j => ad ((xnth pl j).getD 0)) cI 0 wc') H1)
    (hk : ∀ q : Nat, q < H.size → ¬ va_A (xcH (fun j => ad ((xnth pl j).getD 0)) cI 0 wc) H.size q → H1[q]? = H[q]?) : va_P D vwCl (xcH ad cI 0 (xput pl pl wc' ws)) H1 ∧ va_D A (xcH ad cI 0 (xput pl pl wc' ws)) := by
  have hlen := (xsub_e hs).1
  have key : ∀ (k : Nat) (e : xE), xnth (xput pl pl wc' ws) k = some e → ∃ e0, xnth ws k = some e0 := fun k e h => xnth_of_lt (by rw [← xput_len pl pl wc' ws]; exact xnth_lt h)
  refine ⟨fun k q hq => ?_, fun i j x y hx hy hxy => ?_, fun k q hq => ?_⟩
  · obtain ⟨e, h1, rfl⟩ := xcH_of hq
    obtain ⟨e0, h0⟩ := key k e h1
    by_cases hin : k ∈ pl
    · obtain ⟨j, hj⟩ := List.getElem?_of_mem hin
      have hjl : j < wc'.length := by rw [hl, ← hlen]; exact (List.getElem?_eq_some_iff.mp hj).1
      have h2 := xput_in pl pl wc' ws j k wc'[j] hn hj (List.getElem?_eq_getElem hjl) (xnth_lt h0)
      rw [h1] at h2
      cases h2
      have h3 := hP1 j _ (xcH_at (e := wc'[j]) (by rw [xnth_eq]; exact List.getElem?_eq_getElem hjl))
      rw [xcE_r]
      rw [show (xnth pl j).getD 0 = k by rw [xnth_eq, hj]; rfl] at h3
      exact h3
    · rw [xput_out pl pl wc' ws k hin] at h1
      have h2 := hP k _ (xcH_at h1)
      refine h2.kept (hk _ h2.lt (fun h => ?_))
      rcases xc_A hs h with ⟨p, e1, g1, g2, g3⟩ | h
      · have := hD.1 k p _ _ (xcH_at h1) (xcH_at g2) g3
        exact hin (by rw [this]; exact g1)
      · exact absurd h2.lt (Nat.not_lt.mpr h)
  · obtain ⟨e1, h1, rfl⟩ := xcH_of hx
    obtain ⟨e2, h2, rfl⟩ := xcH_of hy
    obtain ⟨f1, g1⟩ := key i e1 h1
    obtain ⟨f2, g2⟩ := key j e2 h2
    exact hD.1 i j _ _ (xcH_at g1) (xcH_at g2) hxy
  · obtain ⟨e1, h1, rfl⟩ := xcH_of hq
    obtain ⟨f1, g1⟩ := key k e1 h1
    have h3 := hD.2 k _ (xcH_at (ad := ad) (cI := cI) g1)
    exact h3
end XC
theorem xPc_blind {nl : List Cond} (hnl : ∀ w ∈ nl, ∃ a i b n d h, w = Cond.fieldLinkNest a i b n d h) {D : va_G} {cI : ClassId} {ad : Nat → Nat} {as : List Value} {ws : xH} {sz : Nat} : FrameBlind (xPc nl D cI ad as ws sz) := by
  intro a U g mk q
  obtain ⟨q0, q1, q2, q3, q4, q5⟩ := q
  refine ⟨q0, q1, q2, va_K.moved (u := U) (U := U.calling g mk a) (Vm.Alike.refl U.vm) q3, q4, fun w hw => ?_⟩
  obtain ⟨a1, i1, b1, n1, d1, h1, rfl⟩ := hnl w hw
  exact va_Nw.same rfl rfl (q5 _ hw)
theorem xent_Rl {ad : Nat → Nat} {as : List Value} {n : Nat} (h : (xsl as).length ≤ n) : ∃ ls : Array Slot, (∀ m : MethodId, entryFrame m (as.map (xcV ad)).toArray n = F0 m 0 ls []) ∧ xRl ad ls (xent as n) := by
  have hlen : ∀ as : List Value, (lg_sl (as.map (xcV ad))).length = (xsl as).length := by
    intro as
    induction as with
    | nil => rfl
    | cons v t ih => cases v <;> simp [lg_sl, xsl, xcV, Value.category] at ih ⊢ <;> omega
  have hl := lv_entry (as.map (xcV ad)) (n := n) (by rw [hlen]; exact h)
  refine ⟨_, fun m => lg_entry_eq m _ n, ?_, hl.2.1, fun i v hv => ?_⟩
  · rw [hl.1]
    unfold xent
    rw [List.length_append, List.length_replicate]
    omega
  · refine hl.2.2 (i, xcV ad v) ?_
    have key : ∀ (as : List Value) (i j : Nat) (v : Value) (k : Nat), (xsl as ++ List.replicate k none)[i]? = some (some v) → (j + i, xcV ad v) ∈ lv_args j (as.map (xcV ad)) := by
      intro as
      induction as with
      | nil =>
        intro i j v k h
        simp only [xsl, List.nil_append] at h
        have := List.eq_of_mem_replicate (List.mem_of_getElem? h)
        cases this
      | cons w t ih =>
        intro i j v k h
        have two : ∀ (w : Value), w.category = 2 → (some w :: none :: (xsl t ++ List.replicate k none))[i]? = some (some v) → (j + i, xcV ad v) ∈ (j, xcV ad w) :: lv_args (j + 2) (t.map (xcV ad)) := by
          intro w _ h
          cases i with
          | zero =>
            simp only [List.getElem?_cons_zero, Option.some.injEq] at h
            subst h
            exact List.mem_cons_self
          | succ i =>
            cases i with
            | zero => simp at h
            | succ i =>
              rw [List.getElem?_cons_succ, List.getElem?_cons_succ] at h
              have := ih i (j + 2) v k h
              rw [show j + 2 + i = j + (i + 1 + 1) by omega] at this
              exact List.mem_cons_of_mem _ this
        have one : ∀ (w : Value), (some w :: (xsl t ++ List.replicate k none))[i]? = some (some v) → (j + i, xcV ad v) ∈ (j, xcV ad w) :: lv_args (j + 1) (t.map (xcV ad)) := by
          intro w h
          cases i with
          | zero =>
            simp only [List.getElem?_cons_zero, Option.some.injEq] at h
            subst h
            exact List.mem_cons_self
          | succ i =>
            rw [List.getElem?_cons_succ] at h
            have := ih i (j + 1) v k h
            rw [show j + 1 + i = j + (i + 1) by omega] at this
            exact List.mem_cons_of_mem _ this
        cases w with
        | long x => exact two (.long x) rfl h
        | double x => exact two (.double x) rfl h
        | int x => exact one (.int x) h
        | float x => exact one (.float x) h
        | null => exact one .null h
        | ref x => exact one (.ref x) h
        | retAddr x => exact one (.retAddr x) h
    have := key as i 0 v _ hv
    rw [Nat.zero_add] at this
    exact this

set_option maxHeartbeats 4000000 in
theorem x_sound {Ts nl : List Cond} {Ms : List xM} (hOK : xOK Ts nl Ms) (l : Launch) : ∀ (d c : Nat) (M : xM) (as : List Value) (ws : xH) (Post : xPost), xnth Ms c = some M → c ≠ 0 → xCt Ms d c as ws Post → ∀ (D : va_G) (cI : ClassId) (ad : Nat → Nat) (sz : Nat),
    Met l M.1 (Cond.code M.1 M.2.1 M.2.2.1 M.2.2.2.1 :: Ts) (xRm d) (xPc nl D cI ad as ws sz) (xQc D cI ad ws sz Post) 0 0 (va_A (xcH ad cI 0 ws) sz) := by
  obtain ⟨hgood, hnl, hMs⟩ := hOK
  intro d
  induction d with
  | zero => intro c M as ws Post _ _ h; exact h.elim
  | succ d ih =>
    intro c0 M as ws Post hM hc0 hCt D cI ad sz
    obtain ⟨M', hM', -, hsl, hG⟩ := hCt
    cases hM.symm.trans hM'
    obtain ⟨o1, o2, o3, o4, o5, o6, o7, o8, o9, o10⟩ := hMs c0 M hM hc0
    refine Met.ofW (cc := M.2.1) (maxL := M.2.2.1) (ret := M.2.2.2.1) o1 rfl ?_
    intro p e s m args below meth c s₁ B hml hv
    obtain ⟨rfl, hsz, hP, hK, hD0, hNw⟩ := hv
    have hx := B.exec
    have hb := B.bytes
    have hr := B.returns
    have hlocks := B.notSynchronized
    have hts0 := atoms_spec (ws := Cond.code M.1 M.2.1 M.2.2.1 M.2.2.2.1 :: Ts) B.pre
    have hts : ∀ w ∈ Ts, w.before (as.map (xcV ad)).toArray s = true := fun w hw => hts0 w (List.mem_cons_of_mem _ hw)
    have hown : s.vm.findClass M.2.2.2.2.2.1.1 = some m.cls := by rw [o5]; exact findClass_of_methodNamed B.named
    have hN : ∀ w ∈ nl, w.before (as.map (xcV ad)).toArray s = true := fun w hw => by
      have h1 := hNw w hw
      obtain ⟨a1, i1, b1, n1, d1, h1', rfl⟩ := hnl w hw
      exact va_Nw.use rfl h1
    subst hsz
    have hD := hD0.self (sz := s.heap.size)
    obtain ⟨ls, hls, hRl⟩ := xent_Rl (ad := ad) (as := as) (n := M.2.2.1) (Nat.le_of_ble_eq_true hsl)
    rw [hls m]
    have hentl : (xent as M.2.2.1).length = M.2.2.1 := by
      unfold xent
      rw [List.length_append, List.length_replicate]
      have := Nat.le_of_ble_eq_true hsl
      omega
    refine hG (xGW p l e (headSpec (Cond.code M.1 M.2.1 M.2.2.1 M.2.2.2.1 :: Ts) (xRm (d + 1))).room s m (as.map (xcV ad)).toArray below meth c (MQ below (xQc D cI ad ws s.heap.size Post) (as.map (xcV ad)).toArray s 0 0 (va_A (xcH ad cI 0 ws) s.heap.size)) D (va_A (xcH ad cI 0 ws) s.heap.size) ad cI ws.length M.2.2.1) ?_ ⟨?_, ?_, ?_⟩ ?_ rfl hentl ls s.heap [] hRl hP hD va_S.rf
    · intro pc i loc st ws' k hi hk h
      obtain ⟨h1, h2⟩ := xtok_e o4 hi
      exact xstep_ok (K := M.2.2.2.2.2.1) (Ms := Ms) hx hb hml hown hts hN hnl hK o10 (show 1 ≤ d + 1 by omega) (show 21 ≤ 60 * (d + 1) by omega) h1 h2 hk id h
    · intro pc n an j loc ws' x hi hret hp hn hm ls H locs hl hP hD hS
      obtain ⟨h1, h2⟩ := xtok_e o4 hi
      have hn1 : n = 1 := xn h2
      subst hn1
      have hq : ∀ t : State, t.heap = H → s.WarmedH t.vm → xQc D cI ad ws s.heap.size Post (as.map (xcV ad)).toArray s (.returned (some (.int x))) t := fun t ht hW => ⟨⟨some (.int x), ws', rfl, Or.inr (Or.inl ⟨x, rfl⟩), hp, hn, by rw [ht]; exact hP⟩, hS.F ht⟩
      rcases hret with hret | ⟨hret, h01⟩
      · exact W.iret hx hb (by rw [hr, hret]) hq hS.2.2 h1
      · refine W.zret (ty := .boolean) hx hb (by rw [hr, hret]) ?_ hq hS.2.2 h1
        rcases h01 with rfl | rfl <;> decide
    · intro pc n an j loc ws' x hi hret hp hn hm ls H locs hl hP hD hS
      obtain ⟨h1, h2⟩ := xtok_e o4 hi
      have hn1 : n = 1 := xn h2
      subst hn1
      have hq : ∀ t : State, t.heap = H → s.WarmedH t.vm → xQc D cI ad ws s.heap.size Post (as.map (xcV ad)).toArray s (.returned (some (.long x))) t := fun t ht hW => ⟨⟨some (.long x), ws', rfl, Or.inr (Or.inr ⟨x, rfl⟩), hp, hn, by rw [ht]; exact hP⟩, hS.F ht⟩
      exact W.lret hx hb (by rw [hr, hret]) hq hS.2.2 h1
    · intro pc n an j loc ws' hi hret hp hn hm ls H locs hl hP hD hS
      obtain ⟨h1, h2⟩ := xtok_e o4 hi
      have hn1 : n = 1 := xn h2
      subst hn1
      have hq : ∀ t : State, t.heap = H → s.WarmedH t.vm → xQc D cI ad ws s.heap.size Post (as.map (xcV ad)).toArray s (.returned none) t := fun t ht hW => ⟨⟨none, ws', rfl, Or.inl rfl, hp, hn, by rw [ht]; exact hP⟩, hS.F ht⟩
      exact W.vret hx hb (by rw [hr, hret]) hq hS.2.2 h1
    · intro pc x n c1 M1 v0 j loc st rest ws' as1 pl wc PC hM1 hi hst hrest hnd hsub hCl hk hn hm ls H locs hl hP hD hS
      obtain ⟨h1, h2⟩ := xtok_e o4 hi
      have hc1 : c1 ≠ 0 ∧ n = 3 ∧ Cond.methodLink M.2.2.2.2.2.1.1 x M1.1 ∈ Ts := by
        have key : Nat.beq n 3 = true → (decide (xlk M.2.2.2.2.2.1.2.2.2.2 x = some c1) && !Nat.beq c1 0) = true → c1 ≠ 0 ∧ n = 3 ∧ Cond.methodLink M.2.2.2.2.2.1.1 x M1.1 ∈ Ts := by
          intro h3 h4
          obtain ⟨h5, h6⟩ := xb2 h4
          have hc1 : c1 ≠ 0 := fun q => by rw [q] at h6; cases h6
          exact ⟨hc1, xn h3, (o10.2.2.2 _ (xlk_mem (of_decide_eq_true h5))).2 hc1 M1 hM1⟩
        cases hs : M1.2.2.2.2.2.2 with
        | true => rw [hs] at h2; obtain ⟨h3, h4⟩ := xb2 h2; exact key h3 h4
        | false => rw [hs] at h2; obtain ⟨h3, h4⟩ := xb2 h2; exact key h3 h4
      obtain ⟨hc1, rfl, hlk⟩ := hc1
      obtain ⟨p1, p2, p3, p4, p5, p6, p7, p8, p9, p10⟩ := hMs c1 M1 hM1 hc1
      have hmet := ih c1 M1 as1 wc PC hM1 hc1 hCl D cI (fun j => ad ((xnth pl j).getD 0)) H.size
      have hPc := xc_P hsub hP
      have hDc := xc_D hsub hnd hD
      have hfree : ∀ q, va_A (xcH (fun j => ad ((xnth pl j).getD 0)) cI 0 wc) H.size q → va_A (xcH ad cI 0 ws) s.heap.size q := by
        intro q hq
        rcases xc_A hsub hq with ⟨p0, e0, -, g2, rfl⟩ | h
        · exact hD.2 p0 _ (xcH_at g2)
        · exact Or.inr (Nat.le_trans hS.1 h)
      have hst' : st.map (xcV ad) = (as1.map (xcV (fun j => ad ((xnth pl j).getD 0)))).reverse ++ rest.map (xcV ad) := by
        rw [hst, List.map_append, List.map_reverse, List.map_map]
        congr 2
        exact List.map_congr_left (fun v _ => xcV_r ad pl v)
      have hpay : ∀ w ∈ (Cond.code M1.1 M1.2.1 M1.2.2.1 M1.2.2.2.1 :: Ts), ∀ (a' : Array Value) (U : State), s.WarmedH U.vm → w.before a' U = true := pay_in hts (fun w hw => by
        have : w ∈ Ts := by
          rcases List.mem_cons.mp hw with rfl | hw
          · exact p2
          · exact hw
        exact ⟨this, good_of_word (hgood w this)⟩)
      have hcat : ((rest.map (xcV ad)).map fun v => v.category).sum ≤ 8 := by
        rw [List.map_map]
        have e1 : rest.map ((fun v => v.category) ∘ xcV ad) = rest.map fun v => v.category := List.map_congr_left (fun v _ => xcV_cat ad v)
        rw [e1]
        exact Nat.le_of_ble_eq_true hrest
      have hlo : 8 + (M1.2.2.1 + 11) + (xRm d).locals ≤ (headSpec (Cond.code M.1 M.2.1 M.2.2.1 M.2.2.2.1 :: Ts) (xRm (d + 1))).room.locals := by
        show 8 + (M1.2.2.1 + 11) + 60 * d ≤ 60 * (d + 1)
        omega
      have hpre : ∀ U : State, U.heap = H → s.WarmedH U.vm → xPc nl D cI (fun j => ad ((xnth pl j).getD 0)) as1 wc H.size (as1.map (xcV (fun j => ad ((xnth pl j).getD 0)))).toArray U := by
        intro U hU hW
        refine ⟨rfl, by rw [hU], by rw [hU]; exact hPc, va_K.moved hW.alike hK, hDc.weaken (fun _ _ _ _ => trivial), fun w hw => ?_⟩
        have h1 := hNw w hw
        obtain ⟨a1, i1, b1, n1, d1, h1', rfl⟩ := hnl w hw
        exact va_Nw.warmF hW h1
      have hsz : (F0 m pc ls (st.map (xcV ad))).locals.size = M.2.2.1 := by
        show ls.size = _
        rw [hl.1, hm]
      have hfix : CallFix p m c M.2.1 M.2.2.1 s (as.map (xcV ad)).toArray Ts M.2.2.2.2.2.1.1 := ⟨hx, hb, hml, hown, hts⟩
      have hrun : va_Run p l e (headSpec (Cond.code M.1 M.2.1 M.2.2.1 M.2.2.2.1 :: Ts) (xRm (d + 1))).room s m (as.map (xcV ad)).toArray below meth c H locs 0 0 0 0 (F0 m pc ls (st.map (xcV ad))) (rest.map (xcV ad)) (xQc D cI (fun j => ad ((xnth pl j).getD 0)) wc H.size PC (as1.map (xcV (fun j => ad ((xnth pl j).getD 0)))).toArray) (va_A (xcH (fun j => ad ((xnth pl j).getD 0)) cI 0 wc) H.size) := by
        cases d with
        | zero => exact hCl.elim
        | succ d =>
          obtain ⟨M1', hM1', hrec, -, -⟩ := hCl
          cases hM1.symm.trans hM1'
          cases hs : M1.2.2.2.2.2.2 with
          | true =>
            rw [hs] at hrec h1
            have cb : CallB (headSpec (Cond.code M.1 M.2.1 M.2.2.1 M.2.2.2.1 :: Ts) (xRm (d + 1 + 1))).room s (as.map (xcV ad)).toArray M.2.2.2.2.2.1.1 x M1.1 M1.2.1 M1.2.2.1 M1.2.2.2.1 (Cond.code M1.1 M1.2.1 M1.2.2.1 M1.2.2.2.1 :: Ts) (xRm (d + 1)) 0 0 as1.length :=
              ⟨rfl, rfl, Nat.le_refl _, hlo, hpay, List.mem_cons_self, hts _ p2, hts _ p6, p9, fun sig h => by
                rw [h] at hrec
                exact (Option.some.inj hrec).symm, hts _ hlk⟩
            exact va_runS hfix hmet ⟨cb, hts _ (p7 hs)⟩ ⟨xPc_blind hnl, hpre⟩ rfl (by rw [List.length_map]) hsz (by show st.map (xcV ad) = _; rw [hst']) (lv_room hcat) h1 ⟨Nat.le_refl _, Nat.le_refl _⟩
          | false =>
            rw [hs] at hrec h1
            obtain ⟨a, ci, fs, r, q, rfl, ha, hq, hq2, hlen⟩ := hrec
            have cb : CallB (headSpec (Cond.code M.1 M.2.1 M.2.2.1 M.2.2.2.1 :: Ts) (xRm (d + 1 + 1))).room s (as.map (xcV ad)).toArray M.2.2.2.2.2.1.1 x M1.1 M1.2.1 M1.2.2.1 M1.2.2.2.1 (Cond.code M1.1 M1.2.1 M1.2.2.1 M1.2.2.2.1 :: Ts) (xRm (d + 1)) 0 0 r.length :=
              ⟨rfl, rfl, Nat.le_refl _, hlo, hpay, List.mem_cons_self, hts _ p2, hts _ p6, p9, fun sig h => by
                rw [h] at hlen
                exact (Option.some.inj hlen).symm, hts _ hlk⟩
            have hrecv := va_recv hK hPc hq (xcH_at ha)
            rw [hq2] at hrecv
            exact va_runV (b := ad ((xnth pl a).getD 0)) (As := r.map (xcV (fun j => ad ((xnth pl j).getD 0)))) hfix hmet ⟨cb, hts _ (p8 hs).1, hts _ (p8 hs).2⟩ ⟨xPc_blind hnl, hrecv, hpre⟩ rfl (by rw [List.length_map]) hsz (by
              show st.map (xcV ad) = _
              rw [hst']
              simp [xcV]) (lv_room hcat) h1 ⟨Nat.le_refl _, Nat.le_refl _⟩
      intro T hT X
      obtain ⟨v, st₀, t, T', L, h0, X', hL, e1, e2, ⟨⟨v', wc', hv, hnum, hpc, hwl, hP1⟩, hF⟩, hgo⟩ := hrun T hT X
      cases hv
      rw [← e1] at hP1
      have hF2 : ∀ q : Nat, q < H.size → ¬ va_A (xcH (fun j => ad ((xnth pl j).getD 0)) cI 0 wc) H.size q → T'.heap[q]? = H[q]? := by
        intro q h3 h4
        rw [e1, ← h0]
        exact hF.2 q (by rw [h0]; exact h3) h4
      obtain ⟨hP2, hD2⟩ := xc_J hsub hnd hP hD hwl hP1 hF2
      have hS2 : va_S (va_A (xcH ad cI 0 ws) s.heap.size) s.heap T'.heap (locs ++ L) := by
        refine ⟨Nat.le_trans hS.1 (by rw [e1, ← h0]; exact hF.1), fun q h3 h4 => ?_, fun q hq => ?_⟩
        · rw [hF2 q (Nat.lt_of_lt_of_le h3 hS.1) (fun z => h4 (hfree q z))]
          exact hS.2.1 q h3 h4
        · rcases List.mem_append.mp hq with h | h
          · exact hS.2.2 q h
          · exact hfree _ (hL q h)
      have hvv : (v.toList ++ rest).map (xcV ad) = v.toList ++ rest.map (xcV ad) := by
        rw [List.map_append]
        congr 1
        rcases hnum with rfl | ⟨z, rfl⟩ | ⟨z, rfl⟩ <;> rfl
      obtain ⟨t2, a1, b1⟩ := hk v wc' hpc hwl (by rw [xput_len]; exact hn) hm ls T'.heap (locs ++ L) hl hP2 hD2 hS2 T' rfl X'
      refine ⟨t2, hgo t2 ?_, b1⟩
      rw [hvv] at a1
      exact a1
