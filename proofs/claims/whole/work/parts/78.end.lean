/-! the law from its entry, printed by wip/whole/gen_end.py; behind whole_start the kit's own skeleton -/
section LN
variable {p : Program} {l : Launch} {e : Env} {R : Room} {s : State} {m : MethodId} {args : Array Value} {below : List Frame} {meth : Method} {c : Code} {H : Heap} {locs : List Loc} {cells slots : Nat} {Q : State → Prop}
variable {cc : ByteArray} {pc : Nat} {ls : Array Slot} {rest : List Value} {D : va_G} {A : Nat → Prop} {H0 : Heap} {cI : ClassId}
/-- new, dup, invokespecial -/
theorem lz_new {own C2 : String} {T2 : u_T} {N2 ci2 i1 i2 mc ms nL : Nat} {fs2 : List Value} {X : va_W} {w1 : xH} {y : MethodName} {bytes : ByteArray} {rm : Room} {nm : List Cond} (hx : p.tables.exec = Jvm.exec) (hb : c.code = cc) (hml : c.maxLocals = nL) (hls : ls.size = nL) (hts : ∀ w ∈ xTs, w.before args s = true) (hown : s.vm.findClass own = some m.cls) (hK : va_K D vwCl [(cI, .int)] s) (hP : va_P D vwCl X H) (hD : va_D A X) (hS : va_S A H0 H locs) (hA : ∀ q, H0.size ≤ q → A q)
    (hlay2 : ∀ w ∈ u_ws C2 T2 N2, w ∈ xTs) (ty2 : Nat → FieldType) (hty2 : ∀ k, k < N2 → parseFieldDescriptor (T2 k).2.2.1 = some (ty2 k)) (hcl : Cond.classLink own i1 C2 ∈ xTs) (hinst : Cond.instantiable C2 N2 ∈ xTs) (hini : Cond.initialized C2 ∈ xTs) (hc2 : vwCl[ci2]? = some (C2, T2, N2)) (hfs2 : ∀ j, j < N2 → defaultValue (ty2 j) = vp_V fs2 j) (hM : nMet l y bytes nm rm ci2 fs2 w1 mc ms) (hnm : nmOk nm) (hnw : ∀ w ∈ nm, va_Nw w s) (hy : y.cls = C2) (hy1 : y.name = "<init>") (hy2 : y.cls ≠ "java/lang/invoke/MethodHandle" ∧ y.cls ≠ "java/lang/invoke/VarHandle") (hy3 : (parseMethodDescriptor y.desc).map (fun d => d.parameters.length) = some 0) (hlink : Cond.methodLink own i2 y ∈ xTs) (hcode : Cond.code y bytes 1 none ∈ xTs) (hyi : Cond.instanceMethod y ∈ xTs) (hrc : rm.cells = mc) (hrs : rm.slots = ms) (hR : rm.frames + 1 ≤ R.frames ∧ 8 + (1 + 11) + rm.locals ≤ R.locals) (hcells : cells + 1 + mc ≤ R.cells) (hslots : slots + N2 + ms ≤ R.slots) (hrest : ((Value.ref 0 :: rest).map fun v => v.category).sum ≤ 8)
    (hd1 : decode cc pc = .ok (.new i1, 3)) (hd2 : decode cc (pc + 3) = .ok (.dup, 1)) (hd3 : decode cc (pc + 4) = .ok (.invokespecial i2, 3))
    (kk : ∀ (u : Nat → Nat) (H1 : Heap) (locs1 : List Loc), va_P D vwCl (X ++ xcH u cI 0 w1) H1 → va_D A (X ++ xcH u cI 0 w1) → va_S A H0 H1 locs1 → W p l e R s m args below meth c H1 locs1 (cells + 1 + mc) (slots + N2 + ms) Q (F0 m (pc + 7) ls (.ref (u 0) :: rest))) : W p l e R s m args below meth c H locs cells slots Q (F0 m pc ls rest) := by
  refine va_new (ci := ci2) (fs := fs2) (C := C2) (T := T2) (N := N2) hx hb hts hlay2 ty2 hty2 hown (hts _ hcl) (hts _ hinst) (hts _ hini) hK hP hD hS hA hc2 hfs2 (by omega) (by omega) hd1 (fun q H1 hP hD hS => ?_)
  refine lv_dup hx hb hd2 rfl ?_
  have hPc := ap_P2 hP
  have hDc := ap_D2 hD
  have hFc := ap_A (sz := H1.size) hD (fun z hz => hA z (Nat.le_trans hS.1 hz))
  have cb : CallB R s args own i2 y bytes 1 none (Cond.code y bytes 1 none :: xTs) rm mc ms 0 :=
    ⟨hrc, hrs, hR.1, hR.2, pay_in hts (xgood hcode), List.mem_cons_self, hts _ hcode, hts _ (by rw [hy]; exact hini), hy2, fun sig h => by
      rw [h] at hy3
      exact (Option.some.inj hy3).symm, hts _ hlink⟩
  refine va_callv (va_runI (b := q) (As := []) (rest := .ref q :: rest) (nL := nL) ⟨hx, hb, hml, hown, hts⟩ (hM D cI q H1.size) ⟨cb, hy1, hts _ hyi⟩ ⟨nPre_blind hnm, fun W1 hU hW => ⟨rfl, by rw [hU], by rw [hU]; exact hPc, va_K.moved hW.alike hK, hDc.weaken (fun _ _ _ _ => trivial), fun w hw => ?_⟩⟩ rfl rfl hls rfl (lv_room hrest) hd3 ⟨hcells, hslots⟩) hS (fun z _ h => hFc z h) hFc (fun u t H2 locs2 ht hvm hu hB hz hk2 hS2 => ?_)
  · have h1 := hnw w hw
    obtain ⟨a1, i1, y1, h1', rfl⟩ := hnm w hw
    exact va_Nw.warmM hW h1
  obtain ⟨hP1, hD1⟩ := hB
  rw [ht] at hP1
  obtain ⟨hP2, hD2⟩ := ap_join hP hD hk2 hFc hP1 hD1
  have hu : u 0 = q := hu
  rw [← hu]
  exact kk u H2 locs2 hP2 hD2 hS2
end LN
def S0 : SG := (fun i j => cond (Nat.beq i 6 && Nat.beq j 2) 9 0, (false, fun _ _ => 0), (0, fun _ => 0), (0, fun _ => 0), fun _ => 0)
theorem rel0 {s : Nat → Int32} (h0 : s 0 = 0) (h1 : s 1 = 0) (h2 : s 2 = 9) : relS S0.1 (fun _ _ => 0) s := ⟨⟨by decide, by decide, by decide, by decide, fun i hi => absurd hi (Nat.not_lt_zero i), fun i hi => absurd hi (Nat.not_lt_zero i)⟩, fun i hi => absurd hi (Nat.not_lt_zero i), fun i hi => absurd hi (Nat.not_lt_zero i), h0, h1, h2⟩
theorem relX0 : relX S0 (fun _ _ => 0) z9 := ⟨rel0 rfl rfl rfl, fun _ _ _ => rfl, ⟨rfl, Nat.zero_le _, fun i hi => absurd hi (Nat.not_lt_zero i)⟩, ⟨rfl, Nat.zero_le _, fun i hi => absurd hi (Nat.not_lt_zero i)⟩, rfl, fun h => (by cases h)⟩
theorem relM0 : relM S0 (fun _ _ => 0) y9 := ⟨rel0 rfl rfl rfl, fun _ _ _ => rfl, ⟨rfl, Nat.zero_le _, fun i hi => absurd hi (Nat.not_lt_zero i)⟩, ⟨rfl, Nat.zero_le _, fun i hi => absurd hi (Nat.not_lt_zero i)⟩, rfl, fun h => (by cases h)⟩
set_option maxRecDepth 100000 in
theorem xnl_in : ∀ w ∈ xnl, w ∈ lw_tbl := by
  intro w hw
  have h : xnl = [77, 80, 82, 83, 85, 86, 87, 89, 118, 138, 140, 142, 144].filterMap (fun i => lw_tbl[i]?) := by decide +kernel
  rw [h] at hw
  obtain ⟨i, -, hi⟩ := List.mem_filterMap.mp hw
  exact List.mem_of_getElem? hi
set_option maxRecDepth 100000 in
theorem xnm_in : ∀ w ∈ xnm, w ∈ lw_tbl := by
  intro w hw
  have h : xnm = [69, 112, 126, 170].filterMap (fun i => lw_tbl[i]?) := by decide +kernel
  rw [h] at hw
  obtain ⟨i, -, hi⟩ := List.mem_filterMap.mp hw
  exact List.mem_of_getElem? hi
theorem xnm_ok : nmOk xnm := List.forall_mem_cons.mpr ⟨⟨_, _, _, _, rfl⟩, List.forall_mem_cons.mpr ⟨⟨_, _, _, _, rfl⟩, List.forall_mem_cons.mpr ⟨⟨_, _, _, _, rfl⟩, List.forall_mem_cons.mpr ⟨⟨_, _, _, _, rfl⟩, fun _ h => absurd h List.not_mem_nil⟩⟩⟩⟩
set_option maxHeartbeats 4000000 in
set_option maxRecDepth 100000 in
/-- THE LAW, from its entry -/
theorem whole_start {p : Program} {e : Env} {s : State} {m : MethodId} {below : List Frame} {meth : Method} {c : Code} (l : Launch) (hflags : l.flags = flags0) {b L : Nat} {xs : Nat → Int32} (hL : L ≤ 2048) (C0 : lw_At p s m meth c b L xs) : W p l e room_1 s m #[Value.ref b] below meth c s.heap [] 0 0 (lw_Z below #[Value.ref b] s) (entryFrame m ([Value.ref b] : List Value).toArray 4) := by
  obtain ⟨hx, hb, hr, hml, hown, hts0, hX, hbl, hlocks, hgv⟩ := id C0
  have hts : ∀ w ∈ xTs, w.before #[Value.ref b] s = true := fun w hw => hts0 w (List.mem_filter.mp hw).1
  have hA : ∀ q : Nat, s.heap.size ≤ q → (fun q : Nat => s.heap.size ≤ q) q := fun _ h => h
  obtain ⟨c0, j0, k0⟩ := u_known (C := RX1) (T := TX1) (N := 9) (n := 9) hts xlayX1 (hts _ (xT_in 68 (by rfl) rfl))
  obtain ⟨c1, j1, k1⟩ := u_known (C := RX2) (T := TX2) (N := 2) (n := 2) hts xlayX2 (hts _ (xT_in 111 (by rfl) rfl))
  obtain ⟨c2, j2, k2⟩ := u_known (C := RX3) (T := TX3) (N := 11) (n := 11) hts xlayX3 (hts _ (xT_in 125 (by rfl) rfl))
  obtain ⟨c3, j3, k3⟩ := u_known (C := RX4) (T := TX4) (N := 3) (n := 3) hts xlayX4 (hts _ (xT_in 169 (by rfl) rfl))
  obtain ⟨c4, j4, k4⟩ := u_known (C := RX5) (T := TX5) (N := 10) (n := 10) hts xlayX5 (hts _ (xT_in 60 (by rfl) rfl))
  obtain ⟨c5, j5, k5⟩ := u_known (C := RX6) (T := TX6) (N := 32) (n := 32) hts xlayX6 (hts _ (xT_in 612 (by rfl) rfl))
  obtain ⟨dC, dI, hKc⟩ : ∃ (dC : Nat → ClassId) (dI : Nat → Nat → Nat), ∀ (k : Nat) (q : vw_C), vwCl[k]? = some q → u_Kn s q.1 q.2.1 q.2.2 (dC k) (dI k) := by
    refine ⟨fun k => match k with
      | 0 => c0
      | 1 => c1
      | 2 => c2
      | 3 => c3
      | 4 => c4
      | _ => c5, fun k => match k with
      | 0 => j0
      | 1 => j1
      | 2 => j2
      | 3 => j3
      | 4 => j4
      | _ => j5, ?_⟩
    intro k q hq
    match k, hq with
    | 0, hq => cases hq; exact k0
    | 1, hq => cases hq; exact k1
    | 2, hq => cases hq; exact k2
    | 3, hq => cases hq; exact k3
    | 4, hq => cases hq; exact k4
    | 5, hq => cases hq; exact k5
    | k + 6, hq => cases hq
  obtain ⟨cI, kA, comp, a1, a2, a3⟩ := Cond.arrayClass_spec (hts _ xT_arr)
  have hK : va_K (dC, dI) vwCl [(cI, .int)] s := by
    refine ⟨hKc, fun k q h => ?_⟩
    match k, h with
    | 0, h => cases h; exact ⟨fun n z => ⟨fun k h => (by cases h), kA, a2, comp, a3⟩, a1⟩
    | k + 1, h => cases h
  have hNw : ∀ w ∈ xnl, va_Nw w s := by
    intro w hw
    have h1 := hts0 w (xnl_in w hw)
    obtain ⟨x1, x2, x3, x4, x5, x6, rfl⟩ := xOK_all.2.1 w hw
    exact va_Nw.of rfl h1
  have hNm : ∀ w ∈ xnm, va_Nw w s := by
    intro w hw
    have h1 := hts0 w (xnm_in w hw)
    obtain ⟨x1, x2, x3, x4, rfl⟩ := xnm_ok w hw
    exact va_Nw.of rfl h1
  have hS : va_S (fun q : Nat => s.heap.size ≤ q) s.heap s.heap [] := va_S.rf
  have hP : va_P (dC, dI) vwCl [] s.heap := fun k q h => by cases h
  have hD : va_D (fun q : Nat => s.heap.size ≤ q) [] := ⟨fun i j p q h => (by cases h), fun k q h => (by cases h)⟩
  have hl := lv_entry ([.ref b]) (n := 4) (Nat.le_of_ble_eq_true rfl)
  rw [lg_entry_eq]
  generalize (lg_sl ([.ref b]) ++ List.replicate (4 - (lg_sl ([.ref b])).length) Slot.unset).toArray = ls at hl ⊢
  have hl : lv_has ls 4 [(0, .ref b)] := hl
  refine lz_new hx hb hml hl.1 hts hown hK hP hD hS hA xlayX5 tyX5 tyX5_ok (xT_in 59 (by rfl) rfl) (xT_in 60 (by rfl) rfl) (xT_in 50 (by rfl) rfl) (ci2 := 4) rfl dvX5 (n_X5 l) xnm_ok hNm rfl rfl ⟨by decide, by decide⟩ (by decide +kernel) (xT_in 61 (by rfl) rfl) (xT_in 63 (by rfl) rfl) (xT_in 62 (by rfl) rfl) rfl rfl ⟨Nat.le_of_ble_eq_true rfl, Nat.le_of_ble_eq_true rfl⟩ (Nat.le_of_ble_eq_true rfl) (Nat.le_of_ble_eq_true rfl) (Nat.le_of_ble_eq_true rfl) dlaw_0 dlaw_3 dlaw_4 (fun U H locs hP hD hS => ?_)
  refine W.widen (k := 35) (n := 4679) (Nat.le_of_ble_eq_true rfl) (Nat.le_of_ble_eq_true rfl) ?_
  refine lv_astore_n (lv' := [(1, .ref (U 0)), (0, .ref b)]) hx hb dlaw_7 rfl hl (by decide) rfl (fun ls hl => ?_)
  refine lz_new hx hb hml hl.1 hts hown hK hP hD hS hA xlayX6 tyX6 tyX6_ok (xT_in 611 (by rfl) rfl) (xT_in 612 (by rfl) rfl) (xT_in 55 (by rfl) rfl) (ci2 := 5) rfl dvX6 (n_X6 l) (fun w hw => absurd hw List.not_mem_nil) (fun w hw => absurd hw List.not_mem_nil) rfl rfl ⟨by decide, by decide⟩ (by decide +kernel) (xT_in 613 (by rfl) rfl) (xT_in 615 (by rfl) rfl) (xT_in 614 (by rfl) rfl) rfl rfl ⟨Nat.le_of_ble_eq_true rfl, Nat.le_of_ble_eq_true rfl⟩ (Nat.le_of_ble_eq_true rfl) (Nat.le_of_ble_eq_true rfl) (Nat.le_of_ble_eq_true rfl) dlaw_8 dlaw_11 dlaw_12 (fun V H locs hP hD hS => ?_)
  refine W.widen (k := 52) (n := 21804) (Nat.le_of_ble_eq_true rfl) (Nat.le_of_ble_eq_true rfl) ?_
  refine lv_astore_n (lv' := [(2, .ref (V 0)), (1, .ref (U 0)), (0, .ref b)]) hx hb dlaw_15 rfl hl (by decide) rfl (fun ls hl => ?_)
  refine lv_iconst (v := 0) hx hb dlaw_16 (by decide) ?_
  refine lv_istore_n (lv' := [(3, .int 0), (2, .ref (V 0)), (1, .ref (U 0)), (0, .ref b)]) hx hb dlaw_17 rfl hl (by decide) rfl (fun ls hl => ?_)
  exact lz_loop C0 hL hK hNw (Nat.le_of_ble_eq_true rfl) (Nat.le_of_ble_eq_true rfl) (L + 1) 0 (by omega) (Nat.zero_le _) S0 H locs ls ⟨_, _, _, _, relX0, relM0, ap_swP hP, ap_swD hD⟩ hS (lv_sub hl [3, 2, 1, 0] rfl)
set_option maxHeartbeats 4000000 in
theorem lw_walk (l : Launch) (hflags : l.flags = flags0) (b : Addr) (xs : List Int32) : MetFree l x (headSpec (Jvm.Cond.code x code maxLocals ret :: tables_1) room_1) (lw_P b xs) (fun _ _ _ _ _ => True) lw_Q := by
  refine MetFree.of_bodyS (code := code) (maxLocals := maxLocals) (ret := ret) (by decide) ?_ ?_
  · intro args s m h hn
    obtain ⟨meth, c, h1, h2, h3, h4, h5, h6, -, -⟩ := Cond.code_spec hn (atoms_spec (ws := Jvm.Cond.code x code maxLocals ret :: tables_1) h _ List.mem_cons_self)
    exact ⟨meth, c, h1, h2, h3, h4, h5, h6⟩
  · intro p e s m args below meth c s₁ B hml0 hP _
    obtain ⟨rfl, hx, hbd, hgv⟩ := hP
    obtain ⟨scr, harrAt, hlist, hof, hsmall⟩ := hx
    obtain ⟨hcb, hkn, -, -⟩ := State.arrayAt?_spec harrAt
    have hown : s.vm.findClass R_law = some m.cls := findClass_of_methodNamed B.named
    have hts0 : ∀ c ∈ (Jvm.Cond.code x code maxLocals ret :: tables_1), c.before #[Value.ref b] s = true := atoms_spec (ws := Jvm.Cond.code x code maxLocals ret :: tables_1) B.pre
    have hts : ∀ w ∈ lw_tbl, w.before #[Value.ref b] s = true := k2_hts_sels lw_privs (fun w hw => hts0 w (List.mem_cons_of_mem _ hw)) lw_privs_ok
    have hml : c.maxLocals = 4 := B.maxLocals_eq (hts0 _ List.mem_cons_self)
    have X₀ : Stand p l e room_1 s m #[Value.ref b] below meth c s₁ [] 0 0 := Stand.of_body B
    have hh0 : s₁.heap = s.heap := by rw [B.state]; rfl
    have hsz : scr.slots.size = xs.length := by rw [← Array.length_toList, hlist, List.length_map]
    have hval : ∀ j : Nat, j < xs.length → scr.slots[j]? = some (.int (xs.getD j 0)) := fun j hj => by
      rw [← Array.getElem?_toList, hlist]
      simp [hj]
    have hbl : b < s.heap.size := (Array.getElem?_eq_some_iff.mp hcb).1
    have hX : va_X b xs.length (fun j => xs.getD j 0) s s.heap := ⟨scr, hcb, hof, hkn, hsz, hval⟩
    have K : W p l e room_1 s m #[Value.ref b] below meth c s₁.heap [] 0 0 (lw_Z below #[Value.ref b] s) (entryFrame m ([Value.ref b] : List Value).toArray 4) := by
      rw [hh0]
      exact whole_start l hflags hbd ⟨B.exec, B.bytes, B.returns, hml, hown, hts, hX, hbl, B.notSynchronized, hgv⟩
    obtain ⟨t, a1, o, b1, b2, b3⟩ := K s₁ rfl X₀
    exact ⟨t, o, a1, b1, b2, b3⟩
theorem lw_pre_spec {args : Array Value} {s : State} (h : (Jvm.Cond.and given_1 narrow_1).before args s = true) (hr : rest_1_c.before args s = true) : ∃ (b : Addr) (xs : List Int32), lw_P b xs args s := by
  have hs := flat_of_before _ h
  have hq := flat_of_before _ hr
  have hc : (Cond.count 1).before args s = true := hs _ (by decide +kernel)
  have harr : (Cond.arrayOf (.arg 0) .int).before args s = true := hs _ (by decide +kernel)
  have hle : (Cond.le (.length (.arg 0)) (.int 2048)).before args s = true := hs _ (by decide +kernel)
  have hlen : (Cond.isInt (.length (.arg 0))).before args s = true := hq _ (by decide +kernel)
  have hall : (Cond.all (.arg 0) (.isInt (.elem (.arg 0) (.index 0)))).before args s = true := hq _ (by decide +kernel)
  obtain ⟨b, xs, hb, hx⟩ := State.ints_of_pre rfl harr hlen hall
  have hsm : xs.length < 2 ^ 31 := hx.choose_spec.2.2.2
  have hev : (Term.length (.arg 0)).eval args s none [] s = some (.int xs.length.toInt32) := hx.length_eval hb
  have hv := Cond.le_ints hev (show (Term.int 2048).eval args s none [] s = some (.int 2048) from rfl)
  have hd : xs.length.toInt32 ≤ 2048 := by
    simpa [Cond.before, Cond.holds, hv] using hle
  have hN : xs.length ≤ 2048 := (Int32.ofNat_le_ofNat hsm (by decide)).mp (show Int32.ofNat xs.length ≤ Int32.ofNat 2048 from hd)
  exact ⟨b, xs, Cond.one_arg hc (show args[0]? = some (.ref b) from hb), hx, hN, h⟩
theorem lw_comes (l : Launch) (hflags : l.flags = flags0) : Comes l x (Jvm.Cond.code x code maxLocals ret :: tables_1) room_1 (fun tb e args s => Calls_1 tb e args s ∧ rest_1 tb e args s ∧ Pre_1 tb e args s)
    (fun _ _ args s o t => lw_Q args s o t) := by
  intro p e ha hc hk s m args below hf hfit hheap happ hpre
  obtain ⟨b, xs, hP⟩ := lw_pre_spec hpre.2.2 hpre.2.1
  obtain ⟨k, o, h1, h2, h3, hQ⟩ := lw_walk l hflags b xs p e ha hc hk s m args below hf ((Spec.applies_iff_loose hf).mp happ).1 hP trivial
  exact ⟨k, o, h1, h2, h3, hQ⟩
theorem lw_frame {s t : State} {o : Outcome} {args : Array Value} (h : Framed s o t [] 600000 7302250) :
    Framed s o t (fieldLocs frame_1_writes args s ++ arrayLocs frame_1_arrays args s ++ staticLocs frame_1_statics s) 600000 7302250 := h
theorem lw_limb (L : Cond) (hL : ∀ (args : Array Value) (s t : State), L.after args s (.returned (some (.int 1))) t = true) :
    ArmFor flags0 classFile x code maxLocals ret World_1 tables_1 room_1 Calls_1 rest_1 Pre_1
      (fun tb e a s o t => postC L tb e a s o t ∧ Framed s o t (fieldLocs frame_1_writes a s ++ arrayLocs frame_1_arrays a s ++ staticLocs frame_1_statics s) 600000 7302250) := by
  intro l hflags _ _ p e ha hc hk s m args below hf hfit hheap happ hpre
  obtain ⟨k, o, h1, h2, h3, rfl, hF⟩ := lw_comes l hflags p e ha hc hk s m args below hf hfit hheap happ hpre
  exact ⟨k, _, h1, h2, h3, hL args s _, lw_frame hF⟩
theorem i_vc : Claimed_1_1 ∧ Claimed_1_2 := ⟨lw_limb limb_1_1 (fun args s t => by simp [limb_1_1, Cond.after, Cond.holds, Cond.value]), lw_limb limb_1_2 (fun args s t => Cond.after_iff.mpr (by
  first | (rw [show limb_1_2 = Cond.eq .result (.int 1) from rfl, Cond.eq_ints (x := 1) (y := 1) rfl rfl]; simp; done) | (simp [limb_1_2, Cond.value, Term.eval]; done)))⟩
