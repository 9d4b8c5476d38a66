/-! THE CLAIM OUT OF ONE WALK OF THE LAW'S BODY. Your part is whole_start (and what it stands on); all else here is the same for every law, but numbers. -/
def R_law : String := "SlidesOverSlidesLaw"
def lw_P (b : Addr) (xs : List Int32) (args : Array Value) (s : State) : Prop := args = #[.ref b] ∧ s.IntsAt b xs ∧ xs.length ≤ 2048 ∧ (Jvm.Cond.and given_1 narrow_1).before args s = true
def lw_Q (_ : Array Value) (s : State) (o : Outcome) (t : State) : Prop := o = .returned (some (.int 1)) ∧ Framed s o t [] 600000 7302250
def lw_Z (below : List Frame) (a : Array Value) (s : State) : State → Prop := fun t => ∃ o, t.status = .running ∧ Ended t below o ∧ lw_Q a s o t
/-- the law's own end, with 1 on the stack, nothing written that was there before, its room as the claim has it -/
theorem lw_ret {p : Program} {l : Launch} {e : Env} {s : State} {m : MethodId} {below : List Frame} {meth : Method} {c : Code} {b : Nat} (hx : p.tables.exec = Jvm.exec) (hb : c.code = code) (hr : meth.sig.returnType = ret) (hlocks : meth.locks = false) {pc : Nat} {H : Heap} {ls : Array Slot} (hdg : decode code pc = .ok (.ireturn, 1)) : W p l e room_1 s m #[Value.ref b] below meth c H [] 600000 7302250 (lw_Z below #[Value.ref b] s) (F0 m pc ls [.int 1]) := by
  intro T hT X
  obtain ⟨fs, hret, hrun, hended, hW, hframe⟩ := X.leave (v := some (.int 1)) (hlocks := hlocks) (fun h => by rw [hr] at h; cases h)
  have hmeth' : T.vm.method? m = some meth := X.method'
  refine ⟨T.setFrames fs, ?_, .returned (some (.int 1)), hrun, hended, rfl, ⟨_, rfl⟩, hW, hframe⟩
  jvm_step X.here [X.here.top, hx, hb, hdg, hmeth', hr, ret, narrow_b1]
  (try refine ⟨rfl, ?_⟩); (try refine ⟨rfl, ?_⟩)
  first | (intro acts; rw [hret _ acts rfl rfl rfl]) | rw [hret _ _ rfl rfl rfl]
  exact Steps.refl _
/-- what holds at the law's entry: the machine, the code, the tables' words (any of lw_tbl by 'hts w (by decide +kernel)'), the script of L ints xs at the cell b, what the Statement gives of the start (any of its parts by flat_of_before) -/
def lw_At (p : Program) (s : State) (m : MethodId) (meth : Method) (c : Code) (b L : Nat) (xs : Nat → Int32) : Prop :=
  p.tables.exec = Jvm.exec ∧ c.code = code ∧ meth.sig.returnType = ret ∧ c.maxLocals = 4 ∧ s.vm.findClass R_law = some m.cls ∧ (∀ w ∈ lw_tbl, w.before #[Value.ref b] s = true) ∧ va_X b L xs s s.heap ∧ b < s.heap.size ∧ meth.locks = false ∧ (Jvm.Cond.and given_1 narrow_1).before #[Value.ref b] s = true
/-- all that holds before a turn of the law's loop, i numbers of the script being read -/
def lzE (p : Program) (s : State) (m : MethodId) (meth : Method) (c : Code) (b L : Nat) (xs : Nat → Int32) (D : va_G) (cI : ClassId) (A : Nat → Prop) (U V : Nat → Nat) (i : Nat) (ls : Array Slot) (cells slots : Nat) : Prop :=
  lw_At p s m meth c b L xs ∧ L ≤ 2048 ∧ va_K D vwCl [(cI, .int)] s ∧ (∀ w ∈ xnl, va_Nw w s) ∧ (∀ q, s.heap.size ≤ q → A q) ∧ ¬ A b ∧ i + 4 ≤ L ∧ lv_has ls 4 [(0, .ref b), (1, .ref (U 0)), (2, .ref (V 0)), (3, .int (nI i))] ∧ cells ≤ room_1.cells ∧ slots ≤ room_1.slots
/-- class and reference stand side by side, and mean the same -/
def lzI (S : SG) (D : va_G) (cI : ClassId) (A : Nat → Prop) (H : Heap) (U V : Nat → Nat) : Prop := ∃ X N a s, relX S X N ∧ relM S a s ∧ va_P D vwCl (xcH V cI 0 (eM a s) ++ xcH U cI 0 (eX X N)) H ∧ va_D A (xcH V cI 0 (eM a s) ++ xcH U cI 0 (eX X N))
theorem xcH_D {A : Nat → Prop} {u : Nat → Nat} {cI : ClassId} {ws ws' : xH} {sz : Nat} (hl : ws'.length = ws.length) (hD : va_D A (xcH u cI 0 ws)) : va_D (va_A (xcH u cI 0 ws) sz) (xcH u cI 0 ws') := by
  have key : ∀ (k : Nat) (e : xE), xnth ws' k = some e → ∃ e0, xnth ws k = some e0 := fun k e h => xnth_of_lt (by rw [← hl]; exact xnth_lt h)
  refine ⟨fun i j x y hx hy hxy => ?_, fun k q hq => ?_⟩
  · obtain ⟨e1, h1, rfl⟩ := xcH_of hx
    obtain ⟨e2, h2, rfl⟩ := xcH_of hy
    obtain ⟨f1, g1⟩ := key i e1 h1
    obtain ⟨f2, g2⟩ := key j e2 h2
    exact hD.1 i j _ _ (xcH_at g1) (xcH_at g2) hxy
  · obtain ⟨e1, h1, rfl⟩ := xcH_of hq
    obtain ⟨f1, g1⟩ := key k e1 h1
    exact Or.inl ⟨k, _, xcH_at (ad := u) (cI := cI) g1⟩
section LW
variable {p : Program} {l : Launch} {e : Env} {s : State} {m : MethodId} {below : List Frame} {meth : Method} {c : Code} {H : Heap} {locs : List Loc} {cells slots : Nat} {Q : State → Prop} {b L : Nat} {xs : Nat → Int32} {D : va_G} {cI : ClassId} {A : Nat → Prop} {U V : Nat → Nat} {i : Nat} {ls : Array Slot} {pc : Nat} {rest : List Value}
/-- a number of the script -/
theorem lz_ld (E : lzE p s m meth c b L xs D cI A U V i ls cells slots) (hS : va_S A s.heap H locs) (j : Nat) (hj : j ≤ 3) {n : Int} (hn : Int32.ofInt n = nI j) (h1 : decode code pc = .ok (.aload_n 0, 1)) (h2 : decode code (pc + 1) = .ok (.iload_n 3, 1)) (h3 : decode code (pc + 2) = .ok (.iconst n, 1)) (h4 : decode code (pc + 3) = .ok (.iadd, 1)) (h5 : decode code (pc + 4) = .ok (.iaload, 1))
    (kk : W p l e room_1 s m #[Value.ref b] below meth c H locs cells slots Q (F0 m (pc + 5) ls (.int (xs (i + j)) :: rest))) : W p l e room_1 s m #[Value.ref b] below meth c H locs cells slots Q (F0 m pc ls rest) := by
  obtain ⟨⟨hx, hb, hr, hml, hown, hts0, hX, hbl, hlocks, hgv⟩, hL, hK, hNw, hA, hbA, hi, hl, hc1, hc2⟩ := E
  refine lv_aload_n hx hb h1 rfl (lv_at hl 0 rfl) ?_
  refine lv_iload_n hx hb h2 rfl (lv_at hl 3 rfl) ?_
  refine lv_iconst hx hb h3 hn ?_
  refine lv_iadd hx hb h4 ?_
  have ea : nI i + nI j = nI (i + j) := nI_add i j
  rw [ea]
  refine va_sld hx hb hX hbl hbA hS (vp_in_nI (by omega) (by omega)) h5 ?_
  rw [nI_clamp (by omega)]
  exact kk
/-- a call of the law's -/
theorem lz_call (E : lzE p s m meth c b L xs D cI A U V i ls cells slots) {X : va_W} {u : Nat → Nat} {ws : xH} (hP : va_P D vwCl (X ++ xcH u cI 0 ws) H) (hD : va_D A (X ++ xcH u cI 0 ws)) (hS : va_S A s.heap H locs) {d c0 idx ci : Nat} {M : xM} {as : List Value} {Post : xPost} {fs : List Value} {q : vw_C} (hM : xnth xMs c0 = some M) (hc0 : c0 ≠ 0) (hst : M.2.2.2.2.2.2 = false) (hlink : Cond.methodLink R_law idx M.1 ∈ xTs) (hw0 : xnth ws 0 = some (.inr (ci, fs))) (hq : vwCl[ci]? = some q) (hq2 : q.1 = M.1.cls) (hpar : (parseMethodDescriptor M.1.desc).map (fun q => q.parameters.length) = some as.length) (hCt : xCt xMs d c0 (.ref 0 :: as) ws Post) (has : as.map (xcV u) = as) (hd : d ≤ 20) (hrest : (rest.map fun v => v.category).sum ≤ 8) (hdg : decode code pc = .ok (.invokevirtual idx, 3))
    (kk : ∀ (v : Option Value) (ws' : xH) (H1 : Heap) (locs1 : List Loc), Post v ws' → va_P D vwCl (X ++ xcH u cI 0 ws') H1 → va_D A (X ++ xcH u cI 0 ws') → va_S A s.heap H1 locs1 → W p l e room_1 s m #[Value.ref b] below meth c H1 locs1 cells slots Q (F0 m (pc + 3) ls (v.toList ++ rest))) : W p l e room_1 s m #[Value.ref b] below meth c H locs cells slots Q (F0 m pc ls (as.reverse ++ .ref (u 0) :: rest)) := by
  obtain ⟨⟨hx, hb, hr, hml, hown, hts0, hX, hbl, hlocks, hgv⟩, hL, hK, hNw, hA, hbA, hi, hl, hc1, hc2⟩ := E
  have hts : ∀ w ∈ xTs, w.before #[Value.ref b] s = true := fun w hw => hts0 w (List.mem_filter.mp hw).1
  obtain ⟨hgood, hnl, hMs⟩ := xOK_all
  obtain ⟨p1, p2, p3, p4, p5, p6, p7, p8, p9, p10⟩ := hMs c0 M hM hc0
  have hmet := x_sound xOK_all l d c0 M (.ref 0 :: as) ws Post hM hc0 hCt D cI u H.size
  have hPc := ap_P2 hP
  have hDc := ap_D2 hD
  have hFc := ap_A (sz := H.size) hD (fun z hz => hA z (Nat.le_trans hS.1 hz))
  have hrecv := va_recv hK hPc hq (xcH_at hw0)
  rw [hq2] at hrecv
  have hpre : ∀ W1 : State, W1.heap = H → s.WarmedH W1.vm → xPc xnl D cI u (.ref 0 :: as) ws H.size (Value.ref (u 0) :: as).toArray W1 := by
    intro W1 hU hW
    refine ⟨?_, by rw [hU], by rw [hU]; exact hPc, va_K.moved hW.alike hK, hDc.weaken (fun _ _ _ _ => trivial), fun w hw => ?_⟩
    · show (Value.ref (u 0) :: as).toArray = (Value.ref (u 0) :: as.map (xcV u)).toArray
      rw [has]
    · have h1 := hNw w hw
      obtain ⟨a1, i1, b1, n1, d1, h1', rfl⟩ := hnl w hw
      exact va_Nw.warmF hW h1
  have cb : CallB room_1 s #[Value.ref b] R_law idx M.1 M.2.1 M.2.2.1 M.2.2.2.1 (Cond.code M.1 M.2.1 M.2.2.1 M.2.2.2.1 :: xTs) (xRm d) 0 0 as.length :=
    ⟨rfl, rfl, by show d + 1 ≤ 2048; omega, by show 8 + (M.2.2.1 + 11) + 60 * d ≤ 84000; omega, pay_in hts (xgood p2), List.mem_cons_self, hts _ p2, hts _ p6, p9, fun sig h => by
      rw [h] at hpar
      exact (Option.some.inj hpar).symm, hts _ hlink⟩
  have hrun := va_runV (p := p) (l := l) (e := e) (below := below) (meth := meth) (locs := locs) (cells := cells) (slots := slots) (b := u 0) (As := as) (g := F0 m pc ls (as.reverse ++ .ref (u 0) :: rest)) (rest := rest) (nL := 4) ⟨hx, hb, hml, hown, hts⟩ hmet ⟨cb, hts _ (p8 hst).1, hts _ (p8 hst).2⟩ ⟨xPc_blind hnl, hrecv, hpre⟩ rfl rfl hl.1 rfl (lv_room hrest) hdg ⟨hc1, hc2⟩
  intro T hT X0
  obtain ⟨v, st₀, t, T', L1, h0, X1, hL1, e1, e2, ⟨⟨v', wc', hv, hnum, hpc, hwl, hP1⟩, hF⟩, hgo⟩ := hrun T hT X0
  cases hv
  rw [← e1] at hP1
  have hF2 : ∀ q : Nat, q < H.size → ¬ va_A (xcH u cI 0 ws) H.size q → T'.heap[q]? = H[q]? := by
    intro q h3 h4
    rw [e1, ← h0]
    exact hF.2 q (by rw [h0]; exact h3) h4
  obtain ⟨hP2, hD2⟩ := ap_join hP hD hF2 hFc hP1 (xcH_D hwl hDc)
  have hS2 : va_S A s.heap T'.heap (locs ++ L1) := by
    refine ⟨Nat.le_trans hS.1 (by rw [e1, ← h0]; exact hF.1), fun q h3 h4 => ?_, fun q hq => ?_⟩
    · rw [hF2 q (Nat.lt_of_lt_of_le h3 hS.1) (fun z => h4 (hFc q z))]
      exact hS.2.1 q h3 h4
    · rcases List.mem_append.mp hq with h | h
      · exact hS.2.2 q h
      · exact hFc _ (hL1 q h)
  obtain ⟨t2, a1, b1⟩ := kk v wc' T'.heap (locs ++ L1) hpc hP2 hD2 hS2 T' rfl X1
  exact ⟨t2, hgo t2 a1, b1⟩
end LW
