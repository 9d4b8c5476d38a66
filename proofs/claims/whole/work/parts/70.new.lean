/-! constructors: a row made for a final field; an object made for one; worlds side by side -/
section NJ
variable {D : va_G} {A : Nat → Prop} {X Y w1 : va_W} {H H1 : Heap}
theorem ap_in {X Y : va_W} {k : Nat} {q : Nat × va_E} (h : X[k]? = some q) : (X ++ Y)[k]? = some q := by
  rw [List.getElem?_append_left (List.getElem?_eq_some_iff.mp h).1]; exact h
theorem ap_on {X Y : va_W} {k : Nat} {q : Nat × va_E} (h : Y[k]? = some q) : (X ++ Y)[X.length + k]? = some q := by
  rw [List.getElem?_append_right (Nat.le_add_right _ _), Nat.add_sub_cancel_left]; exact h
theorem ap_of {X Y : va_W} {k : Nat} {q : Nat × va_E} (h : (X ++ Y)[k]? = some q) : (k < X.length ∧ X[k]? = some q) ∨ (X.length ≤ k ∧ Y[k - X.length]? = some q) := by
  rcases Nat.lt_or_ge k X.length with c | c
  · rw [List.getElem?_append_left c] at h; exact Or.inl ⟨c, h⟩
  · rw [List.getElem?_append_right c] at h; exact Or.inr ⟨c, h⟩
theorem ap_P1 (hP : va_P D vwCl (X ++ Y) H) : va_P D vwCl X H := fun k q h => hP k q (ap_in h)
theorem ap_P2 (hP : va_P D vwCl (X ++ Y) H) : va_P D vwCl Y H := fun k q h => hP _ q (ap_on h)
theorem ap_D1 (hD : va_D A (X ++ Y)) : va_D A X := ⟨fun i j a b ha hb hab => hD.1 i j a b (ap_in ha) (ap_in hb) hab, fun k q h => hD.2 k q (ap_in h)⟩
theorem ap_D2 (hD : va_D A (X ++ Y)) : va_D A Y := ⟨fun i j a b ha hb hab => by have := hD.1 _ _ a b (ap_on ha) (ap_on hb) hab; omega, fun k q h => hD.2 _ q (ap_on h)⟩
theorem ap_A {sz : Nat} (hD : va_D A (X ++ Y)) (hA : ∀ q, sz ≤ q → A q) : ∀ q, va_A Y sz q → A q := by
  intro q h
  rcases h with ⟨k, e, h⟩ | h
  · exact hD.2 _ (q, e) (ap_on h)
  · exact hA q h
theorem ap_swP (hP : va_P D vwCl (X ++ Y) H) : va_P D vwCl (Y ++ X) H := by
  intro k q h
  rcases ap_of h with ⟨_, g⟩ | ⟨_, g⟩
  · exact ap_P2 hP _ q g
  · exact ap_P1 hP _ q g
theorem ap_swD (hD : va_D A (X ++ Y)) : va_D A (Y ++ X) := by
  have no : ∀ (i j : Nat) (a b : Nat × va_E), X[i]? = some a → Y[j]? = some b → a.1 = b.1 → False := by
    intro i j a b ha hb hab
    have := hD.1 _ _ a b (ap_in ha) (ap_on hb) hab
    have := (List.getElem?_eq_some_iff.mp ha).1
    omega
  refine ⟨fun i j a b ha hb hab => ?_, fun k q h => ?_⟩
  · rcases ap_of ha with ⟨c1, h1⟩ | ⟨c1, h1⟩ <;> rcases ap_of hb with ⟨c2, h2⟩ | ⟨c2, h2⟩
    · exact (ap_D2 hD).1 i j a b h1 h2 hab
    · exact (no _ _ b a h2 h1 hab.symm).elim
    · exact (no _ _ a b h1 h2 hab).elim
    · have := (ap_D1 hD).1 _ _ a b h1 h2 hab; omega
  · rcases ap_of h with ⟨_, g⟩ | ⟨_, g⟩
    · exact (ap_D2 hD).2 _ q g
    · exact (ap_D1 hD).2 _ q g
/-- behind a call that had Y: X beside what came back -/
theorem ap_join (hP : va_P D vwCl (X ++ Y) H) (hD : va_D A (X ++ Y)) (hk : ∀ q : Nat, q < H.size → ¬ va_A Y H.size q → H1[q]? = H[q]?) (hF : ∀ q, va_A Y H.size q → A q) (hP1 : va_P D vwCl w1 H1) (hD1 : va_D (va_A Y H.size) w1) : va_P D vwCl (X ++ w1) H1 ∧ va_D A (X ++ w1) := by
  have apart : ∀ (k : Nat) (q : Nat × va_E), X[k]? = some q → ¬ va_A Y H.size q.1 := by
    intro k q h hA
    rcases hA with ⟨j, e, hj⟩ | hge
    · have := hD.1 k (X.length + j) q (q.1, e) (ap_in h) (ap_on hj) rfl
      have := (List.getElem?_eq_some_iff.mp h).1
      omega
    · have := (hP k q (ap_in h)).lt
      omega
  refine ⟨fun k q hq => ?_, fun i j a b ha hb hab => ?_, fun k q hq => ?_⟩
  · rcases ap_of hq with ⟨_, h⟩ | ⟨_, h⟩
    · exact (hP k q (ap_in h)).kept (hk _ (hP k q (ap_in h)).lt (apart k q h))
    · exact hP1 _ q h
  · rcases ap_of ha with ⟨c1, h1⟩ | ⟨c1, h1⟩ <;> rcases ap_of hb with ⟨c2, h2⟩ | ⟨c2, h2⟩
    · exact hD.1 i j a b (ap_in h1) (ap_in h2) hab
    · exact absurd (by rw [hab]; exact hD1.2 _ b h2) (apart i a h1)
    · exact absurd (by rw [← hab]; exact hD1.2 _ a h1) (apart j b h2)
    · have := hD1.1 _ _ a b h1 h2 hab; omega
  · rcases ap_of hq with ⟨_, h⟩ | ⟨_, h⟩
    · exact hD.2 k q (ap_in h)
    · exact hF _ (hD1.2 _ q h)
end NJ
/-- a constructor's contract: from the new object, its fields as they are by default, the world w1 -/
def nPre (nm : List Cond) (ci : Nat) (fs : List Value) (D : va_G) (cI : ClassId) (h0 sz : Nat) : Array Value → State → Prop := va_Pc [.ref h0] (fun U => U.heap.size = sz ∧ va_P D vwCl [(h0, .inr (ci, fs))] U.heap ∧ va_K D vwCl [(cI, .int)] U ∧ va_D (fun _ => True) [(h0, .inr (ci, fs))] ∧ ∀ w ∈ nm, va_Nw w U)
def nPost (ci : Nat) (fs : List Value) (D : va_G) (cI : ClassId) (h0 sz : Nat) (w1 : xH) : Array Value → State → Outcome → State → Prop := va_Qv (fun u : Nat → Nat => u 0 = h0) (fun u t => va_P D vwCl (xcH u cI 0 w1) t.heap ∧ va_D (va_A [(h0, .inr (ci, fs))] sz) (xcH u cI 0 w1)) (va_A [(h0, .inr (ci, fs))] sz)
def nMet (l : Launch) (y : MethodName) (bytes : ByteArray) (nm : List Cond) (rm : Room) (ci : Nat) (fs : List Value) (w1 : xH) (mc ms : Nat) : Prop := ∀ (D : va_G) (cI : ClassId) (h0 sz : Nat), Met l y (Cond.code y bytes 1 none :: xTs) rm (nPre nm ci fs D cI h0 sz) (nPost ci fs D cI h0 sz w1) mc ms (va_A [(h0, .inr (ci, fs))] sz)
def nmOk (nm : List Cond) : Prop := ∀ w ∈ nm, ∃ a i y h, w = Cond.methodLinkNest a i y h
theorem nPre_blind {nm : List Cond} (hnm : nmOk nm) {ci : Nat} {fs : List Value} {D : va_G} {cI : ClassId} {h0 sz : Nat} : FrameBlind (nPre nm ci fs D cI h0 sz) := by
  intro a U g mk q
  obtain ⟨q0, q1, q2, q3, q4, q5⟩ := q
  refine ⟨q0, q1, q2, va_K.moved (u := U) (U := U.calling g mk a) (Vm.Alike.refl U.vm) q3, q4, fun w hw => ?_⟩
  obtain ⟨a1, i1, y1, h1, rfl⟩ := hnm w hw
  exact va_Nw.same rfl rfl (q5 _ hw)
theorem xgood {y : MethodName} {bytes : ByteArray} {n : Nat} {ret : Option FieldType} (h : Cond.code y bytes n ret ∈ xTs) : GoodIn xTs (Cond.code y bytes n ret :: xTs) := by
  intro w hw
  have : w ∈ xTs := by
    rcases List.mem_cons.mp hw with rfl | hw
    · exact h
    · exact hw
  exact ⟨this, good_of_word (xOK_all.1 w this)⟩
set_option maxRecDepth 100000 in
theorem xT_arr : Cond.arrayClass .int ∈ xTs := xT_in 109 (by rfl) rfl
section NI
variable {p : Program} {l : Launch} {e : Env} {R : Room} {s : State} {m : MethodId} {args : Array Value} {below : List Frame} {meth : Method} {c : Code} {H : Heap} {locs : List Loc} {cells slots : Nat} {Q : State → Prop}
variable {cc : ByteArray} {pc : Nat} {ls : Array Slot} {rest : List Value} {D : va_G} {A : Nat → Prop} {H0 : Heap} {cI : ClassId}
theorem cI_eq {cA : ClassId} (h1 : va_K D vwCl [(cI, .int)] s) (h2 : va_K D vwCl ([(cI, .int)] ++ [(cA, .int)]) s) : cA = cI := by
  have a1 : s.vm.findClass ("[" ++ FieldType.int.toString) = some cI := (h1.2 0 _ rfl).2
  have a2 : s.vm.findClass ("[" ++ FieldType.int.toString) = some cA := (h2.2 1 _ rfl).2
  exact Option.some.inj (a2.symm.trans a1)
/-- newarray int, putfield -/
theorem xi_na {own : String} {T : u_T} {N ci idx n h0 : Nat} {fs : List Value} {r : va_W} {x : Int32} (hx : p.tables.exec = Jvm.exec) (hb : c.code = cc) (hts : ∀ w ∈ xTs, w.before args s = true) (hlay : ∀ w ∈ u_ws own T N, w ∈ xTs) (ty0 : Nat → FieldType) (hty : ∀ k, k < N → parseFieldDescriptor (T k).2.2.1 = some (ty0 k)) (hnm : ∀ a, a < N → ∀ b, b < N → a ≠ b → (T a).2.1 ≠ (T b).2.1) (hown : s.vm.findClass own = some m.cls) (hK : va_K D vwCl [(cI, .int)] s) (hP : va_P D vwCl ((h0, .inr (ci, fs)) :: r) H) (hD : va_D A ((h0, .inr (ci, fs)) :: r)) (hS : va_S A H0 H locs) (hA : ∀ q, H0.size ≤ q → A q) (hc : vwCl[ci]? = some (own, T, N)) (k : Nat) (hk : k < N) (hlink : Cond.fieldLink own idx (T k).1 (T k).2.1 (T k).2.2.1 ∈ xTs) (hfin : (T k).2.2.2 = true) (hin : meth.name = "<init>") (hdecl : (T k).1 = own) (hd : parseFieldDescriptor (T k).2.2.1 = some (.array .int)) (hl : k < fs.length) (hn : ¬ x < 0) (hN : x.toNatClampNeg = n) (hbytes : n * componentBytes .int ≤ 536870912) (hcells : cells + 1 ≤ R.cells) (hslots : slots + n ≤ R.slots) (hd1 : decode cc pc = .ok (.newarray .int, 2)) (hd2 : decode cc (pc + 2) = .ok (.putfield idx, 3))
    (kk : ∀ (q : Nat) (H1 : Heap) (locs1 : List Loc), va_P D vwCl ((h0, .inr (ci, fs.set k (.ref q))) :: (r ++ [(q, .inl (cI, n, .inl (fun _ => 0)))])) H1 → va_D A ((h0, .inr (ci, fs.set k (.ref q))) :: (r ++ [(q, .inl (cI, n, .inl (fun _ => 0)))])) → va_S A H0 H1 locs1 → W p l e R s m args below meth c H1 locs1 (cells + 1) (slots + n) Q (F0 m (pc + 5) ls rest)) : W p l e R s m args below meth c H locs cells slots Q (F0 m pc ls (.int x :: .ref h0 :: rest)) := by
  refine va_newa (atype := .int) (a0 := (n, .inl (fun _ => 0))) hx hb (hts _ xT_arr) rfl hK hP hD hS hA (fun _ => rfl) hn hN hbytes hcells hslots hd1 (fun q cA H1 hK1 hP1 hD1 hS1 => ?_)
  have e := cI_eq hK hK1
  rw [e] at hP1 hD1
  refine va_putF (ci := ci) (C := own) (T := T) (N := N) hx hb hts hlay ty0 hty hnm hown hK hP1 hD1 hS1 0 rfl hc k hk (hts _ hlink) (fun _ h => h) hfin hin hdecl hd rfl rfl hl hd2 (fun H2 locs2 hP2 hD2 hS2 => ?_)
  exact kk q H2 locs2 hP2 hD2 hS2
/-- new, dup, invokespecial of a nest mate, putfield -/
theorem xi_ob {own C2 host : String} {T T2 : u_T} {N N2 ci ci2 i1 i2 i3 h0 mc ms nL : Nat} {fs fs2 : List Value} {r : va_W} {w1 : xH} {y : MethodName} {bytes : ByteArray} {rm : Room} (hx : p.tables.exec = Jvm.exec) (hb : c.code = cc) (hml : c.maxLocals = nL) (hls : ls.size = nL) (hts : ∀ w ∈ xTs, w.before args s = true) (hlay : ∀ w ∈ u_ws own T N, w ∈ xTs) (ty0 : Nat → FieldType) (hty : ∀ k, k < N → parseFieldDescriptor (T k).2.2.1 = some (ty0 k)) (hnm : ∀ a, a < N → ∀ b, b < N → a ≠ b → (T a).2.1 ≠ (T b).2.1) (hown : s.vm.findClass own = some m.cls) (hK : va_K D vwCl [(cI, .int)] s) (hP : va_P D vwCl ((h0, .inr (ci, fs)) :: r) H) (hD : va_D A ((h0, .inr (ci, fs)) :: r)) (hS : va_S A H0 H locs) (hA : ∀ q, H0.size ≤ q → A q) (hc : vwCl[ci]? = some (own, T, N)) (k : Nat) (hk : k < N) (hlink : Cond.fieldLink own i3 (T k).1 (T k).2.1 (T k).2.2.1 ∈ xTs) (hfin : (T k).2.2.2 = true) (hin : meth.name = "<init>") (hdecl : (T k).1 = own) (hd : parseFieldDescriptor (T k).2.2.1 = some (.object C2)) (hl : k < fs.length)
    (hlay2 : ∀ w ∈ u_ws C2 T2 N2, w ∈ xTs) (ty2 : Nat → FieldType) (hty2 : ∀ k, k < N2 → parseFieldDescriptor (T2 k).2.2.1 = some (ty2 k)) (hcl : Cond.classLink own i1 C2 ∈ xTs) (hinst : Cond.instantiable C2 N2 ∈ xTs) (hini : Cond.initialized C2 ∈ xTs) (hc2 : vwCl[ci2]? = some (C2, T2, N2)) (hfs2 : ∀ j, j < N2 → defaultValue (ty2 j) = vp_V fs2 j) (hM : nMet l y bytes [] rm ci2 fs2 w1 mc ms) (hy : y.cls = C2) (hy1 : y.name = "<init>") (hy2 : y.cls ≠ "java/lang/invoke/MethodHandle" ∧ y.cls ≠ "java/lang/invoke/VarHandle" ∧ (parseMethodDescriptor y.desc).map (fun d => d.parameters.length) = some 0) (hnest : va_Nw (.methodLinkNest own i2 y host) s) (hcode : Cond.code y bytes 1 none ∈ xTs) (hyi : Cond.instanceMethod y ∈ xTs) (hrc : rm.cells = mc) (hrs : rm.slots = ms) (hR : rm.frames + 1 ≤ R.frames ∧ 8 + (1 + 11) + rm.locals ≤ R.locals) (hcells : cells + 1 + mc ≤ R.cells) (hslots : slots + N2 + ms ≤ R.slots) (hrest : ((Value.ref 0 :: Value.ref 0 :: rest).map fun v => v.category).sum ≤ 8)
    (hd1 : decode cc pc = .ok (.new i1, 3)) (hd2 : decode cc (pc + 3) = .ok (.dup, 1)) (hd3 : decode cc (pc + 4) = .ok (.invokespecial i2, 3)) (hd4 : decode cc (pc + 7) = .ok (.putfield i3, 3))
    (kk : ∀ (u : Nat → Nat) (H1 : Heap) (locs1 : List Loc), va_P D vwCl ((h0, .inr (ci, fs.set k (.ref (u 0)))) :: (r ++ xcH u cI 0 w1)) H1 → va_D A ((h0, .inr (ci, fs.set k (.ref (u 0)))) :: (r ++ xcH u cI 0 w1)) → va_S A H0 H1 locs1 → W p l e R s m args below meth c H1 locs1 (cells + 1 + mc) (slots + N2 + ms) Q (F0 m (pc + 10) ls rest)) : W p l e R s m args below meth c H locs cells slots Q (F0 m pc ls (.ref h0 :: rest)) := by
  refine va_new (ci := ci2) (fs := fs2) (C := C2) (T := T2) (N := N2) hx hb hts hlay2 ty2 hty2 hown (hts _ hcl) (hts _ hinst) (hts _ hini) hK hP hD hS hA hc2 hfs2 (by omega) (by omega) hd1 (fun q H1 hP hD hS => ?_)
  refine lv_dup hx hb hd2 rfl ?_
  have hPc := ap_P2 hP
  have hDc := ap_D2 hD
  have hFc := ap_A (sz := H1.size) hD (fun z hz => hA z (Nat.le_trans hS.1 hz))
  refine va_callv (va_runIN (b := q) (As := []) (rest := .ref q :: .ref h0 :: rest) (nL := nL) ⟨hx, hb, hml, hown, hts⟩ (hM D cI q H1.size) ⟨va_cnB 0 hts (xgood hcode) rfl hrc hrs hnest (hts _ (by rw [hy]; exact hini)) hy2 hR, hy1, hts _ hyi⟩ ⟨nPre_blind (fun w hw => absurd hw List.not_mem_nil), fun U hU hW => ⟨rfl, by rw [hU], by rw [hU]; exact hPc, va_K.moved hW.alike hK, hDc.weaken (fun _ _ _ _ => trivial), fun w hw => absurd hw List.not_mem_nil⟩⟩ rfl rfl hls rfl (lv_room hrest) hd3 ⟨hcells, hslots⟩) hS (fun z _ h => hFc z h) hFc (fun u t H2 locs2 ht hvm hu hB hz hk2 hS2 => ?_)
  obtain ⟨hP1, hD1⟩ := hB
  rw [ht] at hP1
  obtain ⟨hP2, hD2⟩ := ap_join hP hD hk2 hFc hP1 hD1
  have hu : u 0 = q := hu
  rw [← hu]
  refine va_putF (ci := ci) (C := own) (T := T) (N := N) (v := .ref (u 0)) hx hb hts hlay ty0 hty hnm hown hK hP2 hD2 hS2 0 rfl hc k hk (hts _ hlink) (fun _ h => h) hfin hin hdecl hd rfl rfl hl hd4 (fun H3 locs3 hP3 hD3 hS3 => ?_)
  exact kk u H3 locs3 hP3 hD3 hS3
end NI
