/-! one instruction of the abstract machine is one of the real machine's -/
def xFOk (Ts nl : List Cond) (own : String) (idx ci sl ty : Nat) : Prop := ∃ (C : String) (T : u_T) (N : Nat) (ty0 : Nat → FieldType), vwCl[ci]? = some (C, T, N) ∧ sl < N ∧ (∀ w ∈ u_ws C T N, w ∈ Ts) ∧ (∀ k, k < N → parseFieldDescriptor (T k).2.2.1 = some (ty0 k)) ∧ (∀ a, a < N → ∀ b, b < N → a ≠ b → (T a).2.1 ≠ (T b).2.1) ∧
  (Cond.fieldLink own idx (T sl).1 (T sl).2.1 (T sl).2.2.1 ∈ Ts ∨ ∃ host, Cond.fieldLinkNest own idx (T sl).1 (T sl).2.1 (T sl).2.2.1 host ∈ nl) ∧ (ty = 0 → (T sl).2.2.2 = false ∧ ty0 sl = .int) ∧ (ty = 1 → (T sl).2.2.2 = false ∧ ty0 sl = .boolean)
def xCOk (Ts nl : List Cond) (Ms : List xM) (K : xC) : Prop := (∀ q ∈ K.2.1, xFOk Ts nl K.1 q.1 q.2.1 q.2.2.1 q.2.2.2) ∧ (∀ q ∈ K.2.2.1, Cond.constant K.1 q.1 q.2 ∈ Ts) ∧ (∀ q ∈ K.2.2.2.1, Cond.constantLong K.1 q.1 q.2 ∈ Ts) ∧
  (∀ q ∈ K.2.2.2.2, (q.2 = 0 → Cond.methodLink K.1 q.1 Lib.Math.min.name ∈ Ts ∧ Cond.static Lib.Math.min.name ∈ Ts ∧ Cond.initialized "java/lang/Math" ∈ Ts ∧ Cond.code Lib.Math.min.name Lib.Math.min.code 2 (some .int) ∈ Ts) ∧ (q.2 ≠ 0 → ∀ M, xnth Ms q.2 = some M → Cond.methodLink K.1 q.1 M.1 ∈ Ts))
section XS
variable {p : Program} {l : Launch} {e : Env} {R : Room} {s : State} {m : MethodId} {args : Array Value} {below : List Frame} {meth : Method} {c : Code} {Q : State → Prop} {D : va_G} {A : Nat → Prop} {ad : Nat → Nat} {cI : ClassId} {N0 : Nat}
variable {Ts nl : List Cond} {Ms : List xM} {K : xC} {cc : ByteArray}
/-- the real machine's goal behind a state of the abstract one -/
def xGW (p : Program) (l : Launch) (e : Env) (R : Room) (s : State) (m : MethodId) (args : Array Value) (below : List Frame) (meth : Method) (c : Code) (Q : State → Prop) (D : va_G) (A : Nat → Prop) (ad : Nat → Nat) (cI : ClassId) (N0 nL : Nat) : xK := fun pc loc st ws =>
  ws.length = N0 → loc.length = nL → ∀ (ls : Array Slot) (H : Heap) (locs : List Loc), xRl ad ls loc → va_P D vwCl (xcH ad cI 0 ws) H → va_D A (xcH ad cI 0 ws) → va_S A s.heap H locs → W p l e R s m args below meth c H locs 0 0 Q (F0 m pc ls (st.map (xcV ad)))
theorem xb2 {a b : Bool} (h : (a && b) = true) : a = true ∧ b = true := by simpa using h
theorem xn {n k : Nat} (h : Nat.beq n k = true) : n = k := Nat.eq_of_beq_eq_true h
theorem xcmp_0 {p : Program} {l : Launch} {e : Env} {R : Room} {s : State} {m : MethodId} {args : Array Value} {below : List Frame} {meth : Method} {c : Code} {H : Heap} {locs : List Loc} {cells slots : Nat} {Q : State → Prop} {pc : Nat} {ls : Array Slot} {rest : List Value} (hx : p.tables.exec = Jvm.exec) (hb : c.code = cc) {cd : ClassFile.Cond} {x : Int32} {off : Int} {tgt : Nat} {a b : Prop} (hdg : decode cc pc = .ok (.ifCond cd off, 3)) (ht : (pc : Int) + off = (tgt : Int)) (h : xcmp cd x 0 a b)
    (ka : a → W p l e R s m args below meth c H locs cells slots Q (F0 m tgt ls rest)) (kb : b → W p l e R s m args below meth c H locs cells slots Q (F0 m (pc + 3) ls rest)) : W p l e R s m args below meth c H locs cells slots Q (F0 m pc ls (.int x :: rest)) := by
  cases cd
  · exact lv_if_eq hx hb hdg ht (fun q => ka (h.1 q)) (fun q => kb (h.2 q))
  · exact lv_if_ne hx hb hdg ht (fun q => ka (h.1 q)) (fun q => kb (h.2 q))
  · exact lv_if_lt hx hb hdg ht (fun q => ka (h.1 q)) (fun q => kb (h.2 q))
  · first | exact lv_if_ge hx hb hdg ht (fun q => ka (h.1 q)) (fun q => kb (h.2 q)) | exact lv_if_le hx hb hdg ht (fun q => ka (h.1 q)) (fun q => kb (h.2 q))
  · first | exact lv_if_gt hx hb hdg ht (fun q => ka (h.1 q)) (fun q => kb (h.2 q)) | exact lv_if_ge hx hb hdg ht (fun q => ka (h.1 q)) (fun q => kb (h.2 q))
  · first | exact lv_if_le hx hb hdg ht (fun q => ka (h.1 q)) (fun q => kb (h.2 q)) | exact lv_if_gt hx hb hdg ht (fun q => ka (h.1 q)) (fun q => kb (h.2 q))
theorem xcmp_2 {p : Program} {l : Launch} {e : Env} {R : Room} {s : State} {m : MethodId} {args : Array Value} {below : List Frame} {meth : Method} {c : Code} {H : Heap} {locs : List Loc} {cells slots : Nat} {Q : State → Prop} {pc : Nat} {ls : Array Slot} {rest : List Value} (hx : p.tables.exec = Jvm.exec) (hb : c.code = cc) {cd : ClassFile.Cond} {x y : Int32} {off : Int} {tgt : Nat} {a b : Prop} (hdg : decode cc pc = .ok (.if_icmp cd off, 3)) (ht : (pc : Int) + off = (tgt : Int)) (h : xcmp cd x y a b)
    (ka : a → W p l e R s m args below meth c H locs cells slots Q (F0 m tgt ls rest)) (kb : b → W p l e R s m args below meth c H locs cells slots Q (F0 m (pc + 3) ls rest)) : W p l e R s m args below meth c H locs cells slots Q (F0 m pc ls (.int y :: .int x :: rest)) := by
  cases cd
  · exact lv_icmp_eq hx hb hdg ht (fun q => ka (h.1 q)) (fun q => kb (h.2 q))
  · exact lv_icmp_ne hx hb hdg ht (fun q => ka (h.1 q)) (fun q => kb (h.2 q))
  · exact lv_icmp_lt hx hb hdg ht (fun q => ka (h.1 q)) (fun q => kb (h.2 q))
  · first | exact lv_icmp_ge hx hb hdg ht (fun q => ka (h.1 q)) (fun q => kb (h.2 q)) | exact lv_icmp_le hx hb hdg ht (fun q => ka (h.1 q)) (fun q => kb (h.2 q))
  · first | exact lv_icmp_gt hx hb hdg ht (fun q => ka (h.1 q)) (fun q => kb (h.2 q)) | exact lv_icmp_ge hx hb hdg ht (fun q => ka (h.1 q)) (fun q => kb (h.2 q))
  · first | exact lv_icmp_le hx hb hdg ht (fun q => ka (h.1 q)) (fun q => kb (h.2 q)) | exact lv_icmp_gt hx hb hdg ht (fun q => ka (h.1 q)) (fun q => kb (h.2 q))
theorem xlook : ∀ {ps : List (Int × Int)} {cs : List (Int32 × Nat)} {pc : Nat} {d : Int} {x : Int32}, cs.map (fun q => (q.1.toInt, (q.2 : Int))) = ps.map (fun q => (q.1, (pc : Int) + q.2)) → ∀ {dt : Nat}, (pc : Int) + d = (dt : Int) → ∀ {k : Nat → Prop}, xsw x k dt cs → ∃ t : Nat, (pc : Int) + Op.lookupswitch.offset ps d x.toInt = (t : Int) ∧ k t
  | [], [], pc, d, x, _, dt, hd, k, hk => ⟨dt, by simpa [Op.lookupswitch.offset] using hd, hk⟩
  | [], _ :: _, _, _, _, h, _, _, _, _ => by simp at h
  | _ :: _, [], _, _, _, h, _, _, _, _ => by simp at h
  | (a, o) :: ps, (key, t) :: cs, pc, d, x, h, dt, hd, k, hk => by
    simp only [List.map_cons, List.cons.injEq, Prod.mk.injEq] at h
    obtain ⟨⟨h1, h2⟩, h3⟩ := h
    by_cases hx : x = key
    · refine ⟨t, ?_, hk.1 hx⟩
      rw [Op.lookupswitch.offset_cons, if_pos (by rw [hx, h1]), h2]
    · obtain ⟨t', g1, g2⟩ := xlook h3 hd (hk.2 hx)
      exact ⟨t', by rw [lv_osw hx h1]; exact g1, g2⟩

set_option maxHeartbeats 4000000 in
theorem xstep_ok {nL : Nat} (hx : p.tables.exec = Jvm.exec) (hb : c.code = cc) (hml : c.maxLocals = nL) (hown : s.vm.findClass K.1 = some m.cls) (hts : ∀ w ∈ Ts, w.before args s = true) (hN : ∀ w ∈ nl, w.before args s = true) (hnl : ∀ w ∈ nl, ∃ a i b n d h, w = .fieldLinkNest a i b n d h) (hK : va_K D vwCl [(cI, .int)] s) (hC : xCOk Ts nl Ms K) (hfr : 1 ≤ R.frames) (hlo : 21 ≤ R.locals)
    {pc : Nat} {i : xI} {loc : xL} {st : List Value} {ws : xH} {k : xK} (hi : decode cc pc = .ok (i.1, i.2.1)) (hok : xok K pc i = true) (hk : ∀ pc' loc' st' ws', k pc' loc' st' ws' → xGW p l e R s m args below meth c Q D A ad cI N0 nL pc' loc' st' ws') {dflt : Prop} (hd : dflt → xGW p l e R s m args below meth c Q D A ad cI N0 nL pc loc st ws) (h : xstep i pc loc st ws k dflt) : xGW p l e R s m args below meth c Q D A ad cI N0 nL pc loc st ws := by
  obtain ⟨op, n, an, jl⟩ := i
  cases op with
  | aload_n j =>
    obtain rfl : n = 1 := xn hok
    dsimp only [xstep] at h
    obtain ⟨x, h1, h⟩ := xaload_e h
    exact fun hn hm ls H locs hl hP hD hS => lv_aload_n hx hb hi rfl (hl.at h1) (hk _ _ _ _ h hn hm ls H locs hl hP hD hS)
  | aload j =>
    obtain rfl : n = 2 := xn hok
    dsimp only [xstep] at h
    obtain ⟨x, h1, h⟩ := xaload_e h
    exact fun hn hm ls H locs hl hP hD hS => lv_aload hx hb hi (hl.at h1) (hk _ _ _ _ h hn hm ls H locs hl hP hD hS)
  | iload_n j =>
    obtain rfl : n = 1 := xn hok
    dsimp only [xstep] at h
    obtain ⟨x, h1, h⟩ := xiload_e h
    exact fun hn hm ls H locs hl hP hD hS => lv_iload_n hx hb hi rfl (hl.at h1) (hk _ _ _ _ h hn hm ls H locs hl hP hD hS)
  | iload j =>
    obtain rfl : n = 2 := xn hok
    dsimp only [xstep] at h
    obtain ⟨x, h1, h⟩ := xiload_e h
    exact fun hn hm ls H locs hl hP hD hS => lv_iload hx hb hi (hl.at h1) (hk _ _ _ _ h hn hm ls H locs hl hP hD hS)
  | lload_n j =>
    obtain rfl : n = 1 := xn hok
    dsimp only [xstep] at h
    obtain ⟨x, h1, h⟩ := xlload_e h
    exact fun hn hm ls H locs hl hP hD hS => lv_lload_n hx hb hi rfl (hl.at h1) (hk _ _ _ _ h hn hm ls H locs hl hP hD hS)
  | lload j =>
    obtain rfl : n = 2 := xn hok
    dsimp only [xstep] at h
    obtain ⟨x, h1, h⟩ := xlload_e h
    exact fun hn hm ls H locs hl hP hD hS => lv_lload hx hb hi (hl.at h1) (hk _ _ _ _ h hn hm ls H locs hl hP hD hS)
  | istore_n j =>
    obtain rfl : n = 1 := xn hok
    dsimp only [xstep] at h
    obtain ⟨x, r, rfl, h1, h2, h⟩ := xistore_e h
    exact fun hn hm ls H locs hl hP hD hS => lv_istore_n hx hb hi rfl hl.has h2 rfl (fun ls' hl' => hk _ _ _ _ h hn (by rw [List.length_set]; exact hm) ls' H locs (xRl.st1 (v := .int x) h1 h2 hl') hP hD hS)
  | istore j =>
    obtain rfl : n = 2 := xn hok
    dsimp only [xstep] at h
    obtain ⟨x, r, rfl, h1, h2, h⟩ := xistore_e h
    exact fun hn hm ls H locs hl hP hD hS => lv_istore hx hb hi hl.has h2 rfl (fun ls' hl' => hk _ _ _ _ h hn (by rw [List.length_set]; exact hm) ls' H locs (xRl.st1 (v := .int x) h1 h2 hl') hP hD hS)
  | lstore_n j =>
    obtain rfl : n = 1 := xn hok
    dsimp only [xstep] at h
    obtain ⟨x, r, rfl, h1, h2, h⟩ := xlstore_e h
    exact fun hn hm ls H locs hl hP hD hS => lv_lstore_n hx hb hi rfl hl.has h2 rfl (fun ls' hl' => hk _ _ _ _ h hn (by rw [List.length_set, List.length_set]; exact hm) ls' H locs (xRl.st2 (v := .long x) h1 h2 hl') hP hD hS)
  | lstore j =>
    obtain rfl : n = 2 := xn hok
    dsimp only [xstep] at h
    obtain ⟨x, r, rfl, h1, h2, h⟩ := xlstore_e h
    exact fun hn hm ls H locs hl hP hD hS => lv_lstore hx hb hi hl.has h2 rfl (fun ls' hl' => hk _ _ _ _ h hn (by rw [List.length_set, List.length_set]; exact hm) ls' H locs (xRl.st2 (v := .long x) h1 h2 hl') hP hD hS)
  | iinc j v =>
    obtain ⟨h0, hok⟩ := xb2 hok
    obtain rfl : n = 3 := xn h0
    dsimp only [xstep] at h
    split at h
    next x hx0 =>
      obtain ⟨w, t, r, rfl, h'⟩ := xcon_e h
      obtain ⟨h1, h2, h3⟩ := xst1_e h'
      have hv : Int32.ofInt v = w := of_decide_eq_true hok
      subst hv
      intro hn hm ls H locs hl hP hD hS
      have h4 := xlp_in ad loc 0 j _ (by rw [← xnth_eq]; exact hx0)
      rw [Nat.zero_add] at h4
      obtain ⟨q, hq⟩ := List.getElem?_of_mem h4
      exact lv_iinc hx hb hi hl.has hq rfl h2 rfl (fun ls' hl' => hk _ _ _ _ h3 hn (by rw [List.length_set]; exact hm) ls' H locs (xRl.st1 (v := .int (x + Int32.ofInt v)) h1 h2 hl') hP hD hS)
    · exact h.elim
  | iconst v =>
    obtain ⟨h0, hok⟩ := xb2 hok
    obtain rfl : n = 1 := xn h0
    dsimp only [xstep] at h
    obtain ⟨w, t, r, rfl, h⟩ := xcon_e h
    exact fun hn hm ls H locs hl hP hD hS => lv_iconst hx hb hi (of_decide_eq_true hok) (hk _ _ _ _ h hn hm ls H locs hl hP hD hS)
  | bipush v =>
    obtain ⟨h0, hok⟩ := xb2 hok
    obtain rfl : n = 2 := xn h0
    dsimp only [xstep] at h
    obtain ⟨w, t, r, rfl, h⟩ := xcon_e h
    exact fun hn hm ls H locs hl hP hD hS => lv_bipush hx hb hi (of_decide_eq_true hok) (hk _ _ _ _ h hn hm ls H locs hl hP hD hS)
  | sipush v =>
    obtain ⟨h0, hok⟩ := xb2 hok
    obtain rfl : n = 3 := xn h0
    dsimp only [xstep] at h
    obtain ⟨w, t, r, rfl, h⟩ := xcon_e h
    exact fun hn hm ls H locs hl hP hD hS => lv_sipush hx hb hi (of_decide_eq_true hok) (hk _ _ _ _ h hn hm ls H locs hl hP hD hS)
  | ldc v =>
    obtain ⟨h0, hok⟩ := xb2 hok
    obtain rfl : n = 2 := xn h0
    dsimp only [xstep] at h
    obtain ⟨w, t, r, rfl, h⟩ := xcon_e h
    exact fun hn hm ls H locs hl hP hD hS => lv_ldc hx hb hown (hts _ (hC.2.1 _ (xlk_mem (of_decide_eq_true hok)))) hi (hk _ _ _ _ h hn hm ls H locs hl hP hD hS)
  | ldc_w v =>
    obtain ⟨h0, hok⟩ := xb2 hok
    obtain rfl : n = 3 := xn h0
    dsimp only [xstep] at h
    obtain ⟨w, t, r, rfl, h⟩ := xcon_e h
    exact fun hn hm ls H locs hl hP hD hS => lv_ldcw hx hb hown (hts _ (hC.2.1 _ (xlk_mem (of_decide_eq_true hok)))) hi (hk _ _ _ _ h hn hm ls H locs hl hP hD hS)
  | lconst v =>
    obtain ⟨h0, hok⟩ := xb2 hok
    obtain rfl : n = 1 := xn h0
    dsimp only [xstep] at h
    exact fun hn hm ls H locs hl hP hD hS => lv_lconst hx hb hi (of_decide_eq_true hok) (hk _ _ _ _ h hn hm ls H locs hl hP hD hS)
  | ldc2_w v =>
    obtain ⟨h0, hok⟩ := xb2 hok
    obtain rfl : n = 3 := xn h0
    dsimp only [xstep] at h
    exact fun hn hm ls H locs hl hP hD hS => lv_ldc2 hx hb hown (hts _ (hC.2.2.1 _ (xlk_mem (of_decide_eq_true hok)))) hi (hk _ _ _ _ h hn hm ls H locs hl hP hD hS)
  | iadd =>
    obtain rfl : n = 1 := xn hok
    dsimp only [xstep] at h
    obtain ⟨x, y, r, rfl, h⟩ := xii_e h
    exact fun hn hm ls H locs hl hP hD hS => lv_iadd hx hb hi (hk _ _ _ _ h hn hm ls H locs hl hP hD hS)
  | isub =>
    obtain rfl : n = 1 := xn hok
    dsimp only [xstep] at h
    obtain ⟨x, y, r, rfl, h⟩ := xii_e h
    exact fun hn hm ls H locs hl hP hD hS => lv_isub hx hb hi (hk _ _ _ _ h hn hm ls H locs hl hP hD hS)
  | imul =>
    obtain rfl : n = 1 := xn hok
    dsimp only [xstep] at h
    obtain ⟨x, y, r, rfl, h⟩ := xii_e h
    exact fun hn hm ls H locs hl hP hD hS => lv_imul hx hb hi (hk _ _ _ _ h hn hm ls H locs hl hP hD hS)
  | iand =>
    obtain rfl : n = 1 := xn hok
    dsimp only [xstep] at h
    obtain ⟨x, y, r, rfl, h⟩ := xii_e h
    exact fun hn hm ls H locs hl hP hD hS => lv_iand hx hb hi (hk _ _ _ _ h hn hm ls H locs hl hP hD hS)
  | ior =>
    obtain rfl : n = 1 := xn hok
    dsimp only [xstep] at h
    obtain ⟨x, y, r, rfl, h⟩ := xii_e h
    exact fun hn hm ls H locs hl hP hD hS => lv_ior hx hb hi (hk _ _ _ _ h hn hm ls H locs hl hP hD hS)
  | ixor =>
    obtain rfl : n = 1 := xn hok
    dsimp only [xstep] at h
    obtain ⟨x, y, r, rfl, h⟩ := xii_e h
    exact fun hn hm ls H locs hl hP hD hS => lv_ixor hx hb hi (hk _ _ _ _ h hn hm ls H locs hl hP hD hS)
  | ishl =>
    obtain rfl : n = 1 := xn hok
    dsimp only [xstep] at h
    obtain ⟨x, y, r, rfl, h⟩ := xii_e h
    exact fun hn hm ls H locs hl hP hD hS => lv_ishl hx hb hi (hk _ _ _ _ h hn hm ls H locs hl hP hD hS)
  | ishr =>
    obtain rfl : n = 1 := xn hok
    dsimp only [xstep] at h
    obtain ⟨x, y, r, rfl, h⟩ := xii_e h
    exact fun hn hm ls H locs hl hP hD hS => lv_ishr hx hb hi (hk _ _ _ _ h hn hm ls H locs hl hP hD hS)
  | idiv =>
    obtain rfl : n = 1 := xn hok
    dsimp only [xstep] at h
    obtain ⟨x, y, r, rfl, h0, h⟩ := xii_e h
    exact fun hn hm ls H locs hl hP hD hS => lv_idiv hx hb hi h0 (hk _ _ _ _ h hn hm ls H locs hl hP hD hS)
  | irem =>
    obtain rfl : n = 1 := xn hok
    dsimp only [xstep] at h
    obtain ⟨x, y, r, rfl, h0, h⟩ := xii_e h
    exact fun hn hm ls H locs hl hP hD hS => lv_irem hx hb hi h0 (hk _ _ _ _ h hn hm ls H locs hl hP hD hS)
  | iushr =>
    obtain rfl : n = 1 := xn hok
    dsimp only [xstep] at h
    obtain ⟨x, y, r, rfl, h⟩ := xii_e h
    exact fun hn hm ls H locs hl hP hD hS => lv_iushr hx hb hi rfl (hk _ _ _ _ h hn hm ls H locs hl hP hD hS)
  | ineg =>
    obtain rfl : n = 1 := xn hok
    dsimp only [xstep] at h
    obtain ⟨x, r, rfl, h⟩ := xineg_e h
    exact fun hn hm ls H locs hl hP hD hS => lv_ineg hx hb hi (hk _ _ _ _ h hn hm ls H locs hl hP hD hS)
  | i2l =>
    obtain rfl : n = 1 := xn hok
    dsimp only [xstep] at h
    obtain ⟨x, r, rfl, h⟩ := xi2l_e h
    exact fun hn hm ls H locs hl hP hD hS => lv_i2l hx hb hi rfl (hk _ _ _ _ h hn hm ls H locs hl hP hD hS)
  | lsub =>
    obtain rfl : n = 1 := xn hok
    dsimp only [xstep] at h
    obtain ⟨x, y, r, rfl, h⟩ := xll_e h
    exact fun hn hm ls H locs hl hP hD hS => lv_lsub hx hb hi (hk _ _ _ _ h hn hm ls H locs hl hP hD hS)
  | lmul =>
    obtain rfl : n = 1 := xn hok
    dsimp only [xstep] at h
    obtain ⟨x, y, r, rfl, h⟩ := xll_e h
    exact fun hn hm ls H locs hl hP hD hS => lv_lmul hx hb hi (hk _ _ _ _ h hn hm ls H locs hl hP hD hS)
  | ldiv =>
    obtain rfl : n = 1 := xn hok
    dsimp only [xstep] at h
    obtain ⟨x, y, r, rfl, h0, h⟩ := xll_e h
    exact fun hn hm ls H locs hl hP hD hS => lv_ldiv hx hb hi h0 (hk _ _ _ _ h hn hm ls H locs hl hP hD hS)
  | lrem =>
    obtain rfl : n = 1 := xn hok
    dsimp only [xstep] at h
    obtain ⟨x, y, r, rfl, h0, h⟩ := xll_e h
    exact fun hn hm ls H locs hl hP hD hS => lv_lrem hx hb hi h0 (hk _ _ _ _ h hn hm ls H locs hl hP hD hS)
  | lcmp =>
    obtain rfl : n = 1 := xn hok
    dsimp only [xstep] at h
    obtain ⟨x, y, r, rfl, h⟩ := xll_e h
    exact fun hn hm ls H locs hl hP hD hS => W.lcmp hx hb hi (hk _ _ _ _ h hn hm ls H locs hl hP hD hS)
  | dup =>
    obtain rfl : n = 1 := xn hok
    dsimp only [xstep] at h
    obtain ⟨v, r, rfl, hc, h⟩ := xdup_e h
    exact fun hn hm ls H locs hl hP hD hS => lv_dup hx hb hi (by rw [xcV_cat]; exact hc) (hk _ _ _ _ h hn hm ls H locs hl hP hD hS)
  | dup2 =>
    obtain rfl : n = 1 := xn hok
    dsimp only [xstep] at h
    obtain ⟨x, y, r, rfl, h⟩ := xdup2_e h
    exact fun hn hm ls H locs hl hP hD hS => lv_dup2_11 hx hb hi rfl rfl (hk _ _ _ _ h hn hm ls H locs hl hP hD hS)
  | getfield j =>
    obtain ⟨h0, hok⟩ := xb2 hok
    obtain rfl : n = 3 := xn h0
    dsimp only [xstep] at h
    obtain ⟨v0, ci, v1, sl, rr, a, r, fs, v, rfl, rfl, h1, h2, h3⟩ := xgetf_e h
    cases rr with
    | nil => cases hok
    | cons q2 rr =>
      obtain ⟨v2, ty⟩ := q2
      obtain ⟨C, T, N, ty0, f1, f2, f3, f4, f5, f6, -, -⟩ := hC.1 _ (xlk_mem (of_decide_eq_true hok))
      intro hn hm ls H locs hl hP hD hS
      have hv : (fs.map (xcV ad))[sl]? = some (xcV ad v) := by rw [List.getElem?_map, ← xnth_eq, h2]; rfl
      rcases f6 with f6 | ⟨host, f6⟩
      · exact va_get hx hb hts f3 hown hK hP a (xcH_at h1) f1 sl f2 (hts _ f6) (fun _ z => z) hv hi (hk _ _ _ _ h3 hn hm ls H locs hl hP hD hS)
      · exact va_getN hx hb hts f3 hown hK hP a (xcH_at h1) f1 sl f2 (hN _ f6) (fun _ z => z) hv hi (hk _ _ _ _ h3 hn hm ls H locs hl hP hD hS)
  | putfield j =>
    obtain ⟨h0, hok⟩ := xb2 hok
    obtain rfl : n = 3 := xn h0
    dsimp only [xstep] at h
    obtain ⟨v0, ci, v1, sl, v2, ty, rr, x, a, r, fs, w, rfl, rfl, h1, h2, h3, h⟩ := xputf_e h
    obtain ⟨C, T, N, ty0, f1, f2, f3, f4, f5, f6, f7, f8⟩ := hC.1 _ (xlk_mem (of_decide_eq_true hok))
    intro hn hm ls H locs hl hP hD hS
    have hsl : sl < (fs.map (xcV ad)).length := by
      rw [List.length_map]
      rw [xnth_eq] at h2
      exact (List.getElem?_eq_some_iff.mp h2).1
    have hty : (T sl).2.2.2 = false ∧ ∃ ty : FieldType, parseFieldDescriptor (T sl).2.2.1 = some ty ∧ narrow ty (.int x) = .int x ∧ fits ty (.int x) = true := by
      rcases h3 with rfl | ⟨rfl, h3⟩
      · exact ⟨(f7 rfl).1, .int, by rw [f4 sl f2, (f7 rfl).2], rfl, rfl⟩
      · refine ⟨(f8 rfl).1, .boolean, by rw [f4 sl f2, (f8 rfl).2], ?_⟩
        rcases h3 with rfl | rfl
        · exact ⟨by decide, by decide⟩
        · exact ⟨by decide, by decide⟩
    obtain ⟨g1, ty', g2, g3, g4⟩ := hty
    have key : ∀ (H1 : Heap) (locs1 : List Loc), va_P D vwCl ((xcH ad cI 0 ws).set a (ad a, .inr (ci, (fs.map (xcV ad)).set sl (.int x)))) H1 → va_D A ((xcH ad cI 0 ws).set a (ad a, .inr (ci, (fs.map (xcV ad)).set sl (.int x)))) → va_S A s.heap H1 locs1 → W p l e R s m args below meth c H1 locs1 0 0 Q (F0 m (pc + 3) ls (r.map (xcV ad))) := by
      intro H1 locs1 hP1 hD1 hS1
      have e1 : xcH ad cI 0 (ws.set a (.inr (ci, fs.set sl (.int x)))) = (xcH ad cI 0 ws).set a (ad a, .inr (ci, (fs.map (xcV ad)).set sl (.int x))) := by
        rw [xcH_set, Nat.zero_add]
        simp only [xcE, List.map_set, xcV]
      exact hk _ _ _ _ h (by rw [List.length_set]; exact hn) hm ls H1 locs1 hl (by rw [e1]; exact hP1) (by rw [e1]; exact hD1) hS1
    rcases f6 with f6 | ⟨host, f6⟩
    · exact va_put hx hb hts f3 ty0 f4 f5 hown hK hP hD hS a (xcH_at h1) f1 sl f2 (hts _ f6) (fun _ z => z) g1 g2 g3 g4 hsl hi key
    · exact va_putN hx hb hts f3 ty0 f4 f5 hown hK hP hD hS a (xcH_at h1) f1 sl f2 (hN _ f6) (fun _ z => z) g1 g2 g3 g4 hsl hi key
  | iaload =>
    obtain rfl : n = 1 := xn hok
    dsimp only [xstep] at h
    obtain ⟨i, a, r, n, g, rfl, h1, h2, h⟩ := xiald_e h
    exact fun hn hm ls H locs hl hP hD hS => va_iald hx hb hK hP a 0 (xcH_at h1) rfl h2 hi (hk _ _ _ _ h hn hm ls H locs hl hP hD hS)
  | iastore =>
    obtain rfl : n = 1 := xn hok
    dsimp only [xstep] at h
    obtain ⟨x, i, a, r, n, g, rfl, h1, h2, h⟩ := xiast_e h
    intro hn hm ls H locs hl hP hD hS
    refine va_iast hx hb hK hP hD hS a 0 (xcH_at h1) rfl h2 hi (fun H1 locs1 hP1 hD1 hS1 => ?_)
    have e1 : xcH ad cI 0 (ws.set a (.inl (n, upd g i.toNatClampNeg x))) = (xcH ad cI 0 ws).set a (ad a, .inl (cI, n, .inl (upd g i.toNatClampNeg x))) := by
      rw [xcH_set, Nat.zero_add]; rfl
    exact hk _ _ _ _ h (by rw [List.length_set]; exact hn) hm ls H1 locs1 hl (by rw [e1]; exact hP1) (by rw [e1]; exact hD1) hS1
  | arraylength =>
    obtain rfl : n = 1 := xn hok
    dsimp only [xstep] at h
    obtain ⟨a, r, n, g, rfl, h1, h⟩ := xalen_e h
    exact fun hn hm ls H locs hl hP hD hS => va_alen hx hb hK hP a 0 (xcH_at h1) rfl rfl hi (hk _ _ _ _ h hn hm ls H locs hl hP hD hS)
  | goto o =>
    obtain ⟨h0, hok⟩ := xb2 hok
    obtain rfl : n = 3 := xn h0
    dsimp only [xstep] at h
    obtain ⟨w, t, r, rfl, h⟩ := xtgt_e h
    exact fun hn hm ls H locs hl hP hD hS => lv_goto hx hb hi (of_decide_eq_true hok) (hk _ _ _ _ h hn hm ls H locs hl hP hD hS)
  | ifCond cd o =>
    obtain ⟨h0, hok⟩ := xb2 hok
    obtain rfl : n = 3 := xn h0
    dsimp only [xstep] at h
    obtain ⟨w, t, rr, x, r, rfl, rfl, h⟩ := xcnd_e h
    exact fun hn hm ls H locs hl hP hD hS => xcmp_0 hx hb hi (of_decide_eq_true hok) h (fun q => hk _ _ _ _ q hn hm ls H locs hl hP hD hS) (fun q => hk _ _ _ _ q hn hm ls H locs hl hP hD hS)
  | if_icmp cd o =>
    obtain ⟨h0, hok⟩ := xb2 hok
    obtain rfl : n = 3 := xn h0
    dsimp only [xstep] at h
    obtain ⟨w, t, rr, x, y, r, rfl, rfl, h⟩ := xcnd2_e h
    exact fun hn hm ls H locs hl hP hD hS => xcmp_2 hx hb hi (of_decide_eq_true hok) h (fun q => hk _ _ _ _ q hn hm ls H locs hl hP hD hS) (fun q => hk _ _ _ _ q hn hm ls H locs hl hP hD hS)
  | tableswitch d lo hi0 offs =>
    dsimp only [xstep] at h
    obtain ⟨w, dt, cs, x, r, rfl, rfl, h⟩ := xswi_e h
    obtain ⟨h0, hok⟩ := xb2 hok
    obtain ⟨h0, h00⟩ := xb2 h0
    have h0 : (pc : Int) + d = (dt : Int) := of_decide_eq_true h0
    have h00 : hi0 = lo + (offs.size : Int) - 1 := of_decide_eq_true h00
    have hok : cs.map (fun q => (q.1.toInt, (q.2 : Int))) = offs.toList.zipIdx.map (fun q => (lo + (q.2 : Int), (pc : Int) + q.1)) := of_decide_eq_true hok
    intro hn hm ls H locs hl hP hD hS
    rcases xsw_e h with ⟨i, key, t, g1, g2, g3, -⟩ | ⟨g1, g2⟩
    · have e1 : (cs.map (fun q => (q.1.toInt, (q.2 : Int))))[i]? = some (key.toInt, (t : Int)) := by rw [List.getElem?_map, g1]; rfl
      rw [hok, List.getElem?_map, List.getElem?_zipIdx] at e1
      cases ho : offs.toList[i]? with
      | none => rw [ho] at e1; cases e1
      | some o =>
        rw [ho] at e1
        simp only [Option.map_some, Option.some.injEq, Prod.mk.injEq, Nat.zero_add] at e1
        have hlt : i < offs.toList.length := (List.getElem?_eq_some_iff.mp ho).1
        rw [Array.length_toList] at hlt
        subst g2
        refine lv_tableIn hx hb hi (by omega) (by omega) (off := o) ?_ e1.2 (hk _ _ _ _ g3 hn hm ls H locs hl hP hD hS)
        rw [show (x.toInt - lo).toNat = i by omega]
        simpa using ho
    · refine lv_tableOut hx hb hi ?_ h0 (hk _ _ _ _ g2 hn hm ls H locs hl hP hD hS)
      rcases Int.lt_or_le x.toInt lo with q | q
      · exact Or.inl q
      · refine Or.inr ?_
        rcases Int.lt_or_le hi0 x.toInt with q2 | q2
        · exact q2
        · exfalso
          have hlt : (x.toInt - lo).toNat < offs.toList.length := by rw [Array.length_toList]; omega
          have e1 : (offs.toList.zipIdx.map (fun q => (lo + (q.2 : Int), (pc : Int) + q.1)))[(x.toInt - lo).toNat]? = some (x.toInt, (pc : Int) + offs.toList[(x.toInt - lo).toNat]) := by
            rw [List.getElem?_map, List.getElem?_zipIdx, List.getElem?_eq_getElem hlt]
            simp only [Option.map_some, Nat.zero_add]
            rw [show lo + (((x.toInt - lo).toNat : Nat) : Int) = x.toInt by omega]
          rw [← hok, List.getElem?_map] at e1
          cases hc : cs[(x.toInt - lo).toNat]? with
          | none => rw [hc] at e1; cases e1
          | some q =>
            rw [hc] at e1
            simp only [Option.map_some, Option.some.injEq, Prod.mk.injEq] at e1
            exact g1 q (List.mem_of_getElem? hc) (Int32.toInt_inj.mp e1.1.symm)
  | lookupswitch d ps =>
    dsimp only [xstep] at h
    obtain ⟨w, dt, cs, x, r, rfl, rfl, h⟩ := xswi_e h
    obtain ⟨h0, h2⟩ := xb2 hok
    obtain ⟨h0, h1⟩ := xb2 h0
    intro hn hm ls H locs hl hP hD hS
    obtain ⟨t, g1, g2⟩ := xlook (of_decide_eq_true h1) (of_decide_eq_true h0) h
    exact lv_lookup hx hb hi h2 rfl g1 (hk _ _ _ _ g2 hn hm ls H locs hl hP hD hS)
  | invokestatic j =>
    dsimp only [xstep] at h
    unfold xmin at h
    split at h
    next v0 c0 q rr =>
      obtain ⟨h0, hok⟩ := xb2 hok
      obtain rfl : n = 3 := xn h0
      obtain ⟨h1, h2⟩ := xb2 hok
      have hc0 : c0 = 0 := xn h2
      subst hc0
      obtain ⟨m1, m2, m3, m4⟩ := (hC.2.2.2 _ (xlk_mem (of_decide_eq_true h1))).1 rfl
      split at h
      next x y r =>
        split at h
        next hr =>
          intro hn hm ls H locs hl hP hD hS
          refine va_mmin hx hb (by rw [hl.1, hm]; exact hml) hown (hts _ m1) (hts _ m2) (hts _ m3) (hts _ m4) hfr ?_ (Nat.zero_le _) (Nat.zero_le _) hi (hk _ _ _ _ h hn hm ls H locs hl hP hD hS)
          have h3 := Nat.le_of_ble_eq_true hr
          have h4 : ((r.map (xcV ad)).map fun v => v.category) = r.map fun v => v.category := by
            rw [List.map_map]
            exact List.map_congr_left (fun v _ => xcV_cat ad v)
          show (((r.map (xcV ad)).map fun v => v.category)).sum + 13 ≤ R.locals
          rw [h4]
          unfold xcat at h3
          omega
        · exact h.elim
      · exact h.elim
    · exact hd h
  | _ => exact hd h
end XS
