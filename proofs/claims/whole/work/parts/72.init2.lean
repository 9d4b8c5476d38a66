/-! constructors, printed by wip/whole/gen_init.py: the class -/
theorem dX5_init_0 : decode cX5_init 0 = .ok (.aload_n 0, 1) := by decide +kernel
theorem dX5_init_1 : decode cX5_init 1 = .ok (.invokespecial 1, 3) := by decide +kernel
theorem dX5_init_4 : decode cX5_init 4 = .ok (.aload_n 0, 1) := by decide +kernel
theorem dX5_init_5 : decode cX5_init 5 = .ok (.new 7, 3) := by decide +kernel
theorem dX5_init_8 : decode cX5_init 8 = .ok (.dup, 1) := by decide +kernel
theorem dX5_init_9 : decode cX5_init 9 = .ok (.invokespecial 9, 3) := by decide +kernel
theorem dX5_init_12 : decode cX5_init 12 = .ok (.putfield 10, 3) := by decide +kernel
theorem dX5_init_15 : decode cX5_init 15 = .ok (.aload_n 0, 1) := by decide +kernel
theorem dX5_init_16 : decode cX5_init 16 = .ok (.new 7, 3) := by decide +kernel
theorem dX5_init_19 : decode cX5_init 19 = .ok (.dup, 1) := by decide +kernel
theorem dX5_init_20 : decode cX5_init 20 = .ok (.invokespecial 9, 3) := by decide +kernel
theorem dX5_init_23 : decode cX5_init 23 = .ok (.putfield 16, 3) := by decide +kernel
theorem dX5_init_26 : decode cX5_init 26 = .ok (.aload_n 0, 1) := by decide +kernel
theorem dX5_init_27 : decode cX5_init 27 = .ok (.new 7, 3) := by decide +kernel
theorem dX5_init_30 : decode cX5_init 30 = .ok (.dup, 1) := by decide +kernel
theorem dX5_init_31 : decode cX5_init 31 = .ok (.invokespecial 9, 3) := by decide +kernel
theorem dX5_init_34 : decode cX5_init 34 = .ok (.putfield 19, 3) := by decide +kernel
theorem dX5_init_37 : decode cX5_init 37 = .ok (.aload_n 0, 1) := by decide +kernel
theorem dX5_init_38 : decode cX5_init 38 = .ok (.new 22, 3) := by decide +kernel
theorem dX5_init_41 : decode cX5_init 41 = .ok (.dup, 1) := by decide +kernel
theorem dX5_init_42 : decode cX5_init 42 = .ok (.invokespecial 24, 3) := by decide +kernel
theorem dX5_init_45 : decode cX5_init 45 = .ok (.putfield 25, 3) := by decide +kernel
theorem dX5_init_48 : decode cX5_init 48 = .ok (.aload_n 0, 1) := by decide +kernel
theorem dX5_init_49 : decode cX5_init 49 = .ok (.new 29, 3) := by decide +kernel
theorem dX5_init_52 : decode cX5_init 52 = .ok (.dup, 1) := by decide +kernel
theorem dX5_init_53 : decode cX5_init 53 = .ok (.invokespecial 31, 3) := by decide +kernel
theorem dX5_init_56 : decode cX5_init 56 = .ok (.putfield 32, 3) := by decide +kernel
theorem dX5_init_59 : decode cX5_init 59 = .ok (.aload_n 0, 1) := by decide +kernel
theorem dX5_init_60 : decode cX5_init 60 = .ok (.new 36, 3) := by decide +kernel
theorem dX5_init_63 : decode cX5_init 63 = .ok (.dup, 1) := by decide +kernel
theorem dX5_init_64 : decode cX5_init 64 = .ok (.invokespecial 38, 3) := by decide +kernel
theorem dX5_init_67 : decode cX5_init 67 = .ok (.putfield 39, 3) := by decide +kernel
theorem dX5_init_70 : decode cX5_init 70 = .ok (.aload_n 0, 1) := by decide +kernel
theorem dX5_init_71 : decode cX5_init 71 = .ok (.bipush 12, 2) := by decide +kernel
theorem dX5_init_73 : decode cX5_init 73 = .ok (.newarray .int, 2) := by decide +kernel
theorem dX5_init_75 : decode cX5_init 75 = .ok (.putfield 43, 3) := by decide +kernel
theorem dX5_init_78 : decode cX5_init 78 = .ok (.aload_n 0, 1) := by decide +kernel
theorem dX5_init_79 : decode cX5_init 79 = .ok (.bipush 7, 2) := by decide +kernel
theorem dX5_init_81 : decode cX5_init 81 = .ok (.newarray .int, 2) := by decide +kernel
theorem dX5_init_83 : decode cX5_init 83 = .ok (.putfield 47, 3) := by decide +kernel
theorem dX5_init_86 : decode cX5_init 86 = .ok (.return_, 1) := by decide +kernel
theorem dvX5 : ∀ j, j < 10 → defaultValue (tyX5 j) = vp_V [.null, .null, .null, .int 0, .null, .null, .null, .null, .int 0, .null] j := by decide
set_option maxHeartbeats 4000000 in
set_option maxRecDepth 100000 in
theorem n_X5 (l : Launch) : nMet l yX5_init cX5_init xnm { frames := 2, cells := 34, slots := 4669, locals := 60 } 4 [.null, .null, .null, .int 0, .null, .null, .null, .null, .int 0, .null] (eX (fun _ _ => 0) z9) 34 4669 := by
  intro D cI h0 sz
  refine Met.ofW (cc := cX5_init) (maxL := 1) (ret := none) (by decide) rfl ?_
  intro p e s m args below meth c s₁ B hml hv
  obtain ⟨rfl, hsz, hP, hK, hD0, hnw⟩ := hv
  have hx := B.exec
  have hb := B.bytes
  have hr := B.returns
  have hts0 := atoms_spec (ws := Cond.code yX5_init cX5_init 1 none :: xTs) B.pre
  have hts : ∀ w ∈ xTs, w.before ([Value.ref h0] : List Value).toArray s = true := fun w hw => hts0 w (List.mem_cons_of_mem _ hw)
  have hown : s.vm.findClass RX5 = some m.cls := findClass_of_methodNamed B.named
  have hlocks := B.notSynchronized
  have hin : meth.name = "<init>" := (name_of_methodNamed B.named B.method).1
  subst hsz
  have hD := hD0.self (sz := s.heap.size)
  have hA : ∀ q : Nat, s.heap.size ≤ q → va_A [(h0, .inr (4, [.null, .null, .null, .int 0, .null, .null, .null, .null, .int 0, .null]))] s.heap.size q := fun q h => Or.inr h
  have hS : va_S (va_A [(h0, .inr (4, [.null, .null, .null, .int 0, .null, .null, .null, .null, .int 0, .null]))] s.heap.size) s.heap s.heap [] := va_S.rf
  have hl := lv_entry ([.ref h0]) (n := 1) (Nat.le_of_ble_eq_true rfl)
  rw [lg_entry_eq]
  generalize (lg_sl ([.ref h0]) ++ List.replicate (1 - (lg_sl ([.ref h0])).length) Slot.unset).toArray = ls at hl ⊢
  have hl : lv_has ls 1 [(0, .ref h0)] := hl
  refine lv_aload_n hx hb dX5_init_0 rfl (lv_at hl 0 rfl) ?_
  refine W.objInit hx hb hown (hts _ (xT_in 64 (by rfl) rfl)) (hts _ (xT_in 65 (by rfl) rfl)) (hts _ (xT_in 66 (by rfl) rfl)) rfl (by rw [hml]; exact hl.1) rfl dX5_init_1 (Nat.le_of_ble_eq_true rfl) (Nat.le_of_ble_eq_true rfl) ?_
  refine W.eq (g2 := F0 m 4 ls []) rfl ?_
  refine lv_aload_n hx hb dX5_init_4 rfl (lv_at hl 0 rfl) ?_
  refine xi_ob hx hb hml hl.1 hts xlayX5 tyX5 tyX5_ok nmX5 hown hK hP hD hS hA rfl 0 (by decide) (xT_in 184 (by rfl) rfl) rfl hin rfl rfl (Nat.le_of_ble_eq_true rfl) xlayX1 tyX1 tyX1_ok (xT_in 67 (by rfl) rfl) (xT_in 68 (by rfl) rfl) (xT_in 51 (by rfl) rfl) (ci2 := 0) rfl dvX1 (n_X1 l) rfl rfl ⟨by decide, by decide, by decide +kernel⟩ (hnw _ (List.mem_of_getElem? (i := 0) rfl)) (xT_in 71 (by rfl) rfl) (xT_in 70 (by rfl) rfl) rfl rfl ⟨Nat.le_of_ble_eq_true rfl, Nat.le_of_ble_eq_true rfl⟩ (Nat.le_of_ble_eq_true rfl) (Nat.le_of_ble_eq_true rfl) (Nat.le_of_ble_eq_true rfl) dX5_init_5 dX5_init_8 dX5_init_9 dX5_init_12 (fun u1 H locs hP hD hS => ?_)
  refine W.widen (k := 7) (n := 55) (Nat.le_of_ble_eq_true rfl) (Nat.le_of_ble_eq_true rfl) ?_
  refine lv_aload_n hx hb dX5_init_15 rfl (lv_at hl 0 rfl) ?_
  refine xi_ob hx hb hml hl.1 hts xlayX5 tyX5 tyX5_ok nmX5 hown hK hP hD hS hA rfl 1 (by decide) (xT_in 185 (by rfl) rfl) rfl hin rfl rfl (Nat.le_of_ble_eq_true rfl) xlayX1 tyX1 tyX1_ok (xT_in 67 (by rfl) rfl) (xT_in 68 (by rfl) rfl) (xT_in 51 (by rfl) rfl) (ci2 := 0) rfl dvX1 (n_X1 l) rfl rfl ⟨by decide, by decide, by decide +kernel⟩ (hnw _ (List.mem_of_getElem? (i := 0) rfl)) (xT_in 71 (by rfl) rfl) (xT_in 70 (by rfl) rfl) rfl rfl ⟨Nat.le_of_ble_eq_true rfl, Nat.le_of_ble_eq_true rfl⟩ (Nat.le_of_ble_eq_true rfl) (Nat.le_of_ble_eq_true rfl) (Nat.le_of_ble_eq_true rfl) dX5_init_16 dX5_init_19 dX5_init_20 dX5_init_23 (fun u2 H locs hP hD hS => ?_)
  refine W.widen (k := 14) (n := 110) (Nat.le_of_ble_eq_true rfl) (Nat.le_of_ble_eq_true rfl) ?_
  refine lv_aload_n hx hb dX5_init_26 rfl (lv_at hl 0 rfl) ?_
  refine xi_ob hx hb hml hl.1 hts xlayX5 tyX5 tyX5_ok nmX5 hown hK hP hD hS hA rfl 2 (by decide) (xT_in 186 (by rfl) rfl) rfl hin rfl rfl (Nat.le_of_ble_eq_true rfl) xlayX1 tyX1 tyX1_ok (xT_in 67 (by rfl) rfl) (xT_in 68 (by rfl) rfl) (xT_in 51 (by rfl) rfl) (ci2 := 0) rfl dvX1 (n_X1 l) rfl rfl ⟨by decide, by decide, by decide +kernel⟩ (hnw _ (List.mem_of_getElem? (i := 0) rfl)) (xT_in 71 (by rfl) rfl) (xT_in 70 (by rfl) rfl) rfl rfl ⟨Nat.le_of_ble_eq_true rfl, Nat.le_of_ble_eq_true rfl⟩ (Nat.le_of_ble_eq_true rfl) (Nat.le_of_ble_eq_true rfl) (Nat.le_of_ble_eq_true rfl) dX5_init_27 dX5_init_30 dX5_init_31 dX5_init_34 (fun u3 H locs hP hD hS => ?_)
  refine W.widen (k := 21) (n := 165) (Nat.le_of_ble_eq_true rfl) (Nat.le_of_ble_eq_true rfl) ?_
  refine lv_aload_n hx hb dX5_init_37 rfl (lv_at hl 0 rfl) ?_
  refine xi_ob hx hb hml hl.1 hts xlayX5 tyX5 tyX5_ok nmX5 hown hK hP hD hS hA rfl 4 (by decide) (xT_in 188 (by rfl) rfl) rfl hin rfl rfl (Nat.le_of_ble_eq_true rfl) xlayX2 tyX2 tyX2_ok (xT_in 110 (by rfl) rfl) (xT_in 111 (by rfl) rfl) (xT_in 52 (by rfl) rfl) (ci2 := 1) rfl dvX2 (n_X2 l) rfl rfl ⟨by decide, by decide, by decide +kernel⟩ (hnw _ (List.mem_of_getElem? (i := 1) rfl)) (xT_in 114 (by rfl) rfl) (xT_in 113 (by rfl) rfl) rfl rfl ⟨Nat.le_of_ble_eq_true rfl, Nat.le_of_ble_eq_true rfl⟩ (Nat.le_of_ble_eq_true rfl) (Nat.le_of_ble_eq_true rfl) (Nat.le_of_ble_eq_true rfl) dX5_init_38 dX5_init_41 dX5_init_42 dX5_init_45 (fun u4 H locs hP hD hS => ?_)
  refine W.widen (k := 23) (n := 247) (Nat.le_of_ble_eq_true rfl) (Nat.le_of_ble_eq_true rfl) ?_
  refine lv_aload_n hx hb dX5_init_48 rfl (lv_at hl 0 rfl) ?_
  refine xi_ob hx hb hml hl.1 hts xlayX5 tyX5 tyX5_ok nmX5 hown hK hP hD hS hA rfl 5 (by decide) (xT_in 189 (by rfl) rfl) rfl hin rfl rfl (Nat.le_of_ble_eq_true rfl) xlayX3 tyX3 tyX3_ok (xT_in 124 (by rfl) rfl) (xT_in 125 (by rfl) rfl) (xT_in 53 (by rfl) rfl) (ci2 := 2) rfl dvX3 (n_X3 l) rfl rfl ⟨by decide, by decide, by decide +kernel⟩ (hnw _ (List.mem_of_getElem? (i := 2) rfl)) (xT_in 128 (by rfl) rfl) (xT_in 127 (by rfl) rfl) rfl rfl ⟨Nat.le_of_ble_eq_true rfl, Nat.le_of_ble_eq_true rfl⟩ (Nat.le_of_ble_eq_true rfl) (Nat.le_of_ble_eq_true rfl) (Nat.le_of_ble_eq_true rfl) dX5_init_49 dX5_init_52 dX5_init_53 dX5_init_56 (fun u5 H locs hP hD hS => ?_)
  refine W.widen (k := 28) (n := 291) (Nat.le_of_ble_eq_true rfl) (Nat.le_of_ble_eq_true rfl) ?_
  refine lv_aload_n hx hb dX5_init_59 rfl (lv_at hl 0 rfl) ?_
  refine xi_ob hx hb hml hl.1 hts xlayX5 tyX5 tyX5_ok nmX5 hown hK hP hD hS hA rfl 6 (by decide) (xT_in 190 (by rfl) rfl) rfl hin rfl rfl (Nat.le_of_ble_eq_true rfl) xlayX4 tyX4 tyX4_ok (xT_in 168 (by rfl) rfl) (xT_in 169 (by rfl) rfl) (xT_in 54 (by rfl) rfl) (ci2 := 3) rfl dvX4 (n_X4 l) rfl rfl ⟨by decide, by decide, by decide +kernel⟩ (hnw _ (List.mem_of_getElem? (i := 3) rfl)) (xT_in 172 (by rfl) rfl) (xT_in 171 (by rfl) rfl) rfl rfl ⟨Nat.le_of_ble_eq_true rfl, Nat.le_of_ble_eq_true rfl⟩ (Nat.le_of_ble_eq_true rfl) (Nat.le_of_ble_eq_true rfl) (Nat.le_of_ble_eq_true rfl) dX5_init_60 dX5_init_63 dX5_init_64 dX5_init_67 (fun u6 H locs hP hD hS => ?_)
  refine W.widen (k := 32) (n := 4650) (Nat.le_of_ble_eq_true rfl) (Nat.le_of_ble_eq_true rfl) ?_
  refine lv_aload_n hx hb dX5_init_70 rfl (lv_at hl 0 rfl) ?_
  refine lv_bipush (v := 12) hx hb dX5_init_71 rfl ?_
  refine xi_na hx hb hts xlayX5 tyX5 tyX5_ok nmX5 hown hK hP hD hS hA rfl 7 (by decide) (xT_in 191 (by rfl) rfl) rfl hin rfl rfl (Nat.le_of_ble_eq_true rfl) (by decide +kernel) (n := 12) (by decide +kernel) (by decide +kernel) (Nat.le_of_ble_eq_true rfl) (Nat.le_of_ble_eq_true rfl) dX5_init_73 dX5_init_75 (fun q7 H locs hP hD hS => ?_)
  refine W.widen (k := 33) (n := 4662) (Nat.le_of_ble_eq_true rfl) (Nat.le_of_ble_eq_true rfl) ?_
  refine lv_aload_n hx hb dX5_init_78 rfl (lv_at hl 0 rfl) ?_
  refine lv_bipush (v := 7) hx hb dX5_init_79 rfl ?_
  refine xi_na hx hb hts xlayX5 tyX5 tyX5_ok nmX5 hown hK hP hD hS hA rfl 9 (by decide) (xT_in 193 (by rfl) rfl) rfl hin rfl rfl (Nat.le_of_ble_eq_true rfl) (by decide +kernel) (n := 7) (by decide +kernel) (by decide +kernel) (Nat.le_of_ble_eq_true rfl) (Nat.le_of_ble_eq_true rfl) dX5_init_81 dX5_init_83 (fun q8 H locs hP hD hS => ?_)
  refine W.widen (k := 34) (n := 4669) (Nat.le_of_ble_eq_true rfl) (Nat.le_of_ble_eq_true rfl) ?_
  exact W.vret hx hb hr (fun t ht hW => ⟨⟨fun i => ([h0, u1 0, u1 1, u1 2, u1 3, u1 4, u1 5, u1 6, u2 0, u2 1, u2 2, u2 3, u2 4, u2 5, u2 6, u3 0, u3 1, u3 2, u3 3, u3 4, u3 5, u3 6, u4 0, u4 1, u5 0, u5 1, u5 2, u5 3, u5 4, u6 0, u6 1, u6 2, u6 3, q7, q8] : List Nat).getD i 0, rfl, rfl, by rw [ht]; exact hP, hD⟩, hS.F ht⟩) hS.2.2 dX5_init_86
