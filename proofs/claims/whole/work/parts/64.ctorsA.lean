theorem dX0_init_0 : decode cX0_init 0 = .ok (.aload_n 0, 1) := by decide +kernel
theorem dX0_init_1 : decode cX0_init 1 = .ok (.invokespecial 3, 3) := by decide +kernel
theorem dX0_init_4 : decode cX0_init 4 = .ok (.aload_n 0, 1) := by decide +kernel
theorem dX0_init_5 : decode cX0_init 5 = .ok (.bipush 32, 2) := by decide +kernel
theorem dX0_init_7 : decode cX0_init 7 = .ok (.newarray .int, 2) := by decide +kernel
theorem dX0_init_9 : decode cX0_init 9 = .ok (.putfield 9, 3) := by decide +kernel
theorem dX0_init_12 : decode cX0_init 12 = .ok (.aload_n 0, 1) := by decide +kernel
theorem dX0_init_13 : decode cX0_init 13 = .ok (.bipush 32, 2) := by decide +kernel
theorem dX0_init_15 : decode cX0_init 15 = .ok (.newarray .int, 2) := by decide +kernel
theorem dX0_init_17 : decode cX0_init 17 = .ok (.putfield 15, 3) := by decide +kernel
theorem dX0_init_20 : decode cX0_init 20 = .ok (.aload_n 0, 1) := by decide +kernel
theorem dX0_init_21 : decode cX0_init 21 = .ok (.sipush 480, 3) := by decide +kernel
theorem dX0_init_24 : decode cX0_init 24 = .ok (.newarray .int, 2) := by decide +kernel
theorem dX0_init_26 : decode cX0_init 26 = .ok (.putfield 18, 3) := by decide +kernel
theorem dX0_init_29 : decode cX0_init 29 = .ok (.aload_n 0, 1) := by decide +kernel
theorem dX0_init_30 : decode cX0_init 30 = .ok (.sipush 512, 3) := by decide +kernel
theorem dX0_init_33 : decode cX0_init 33 = .ok (.newarray .int, 2) := by decide +kernel
theorem dX0_init_35 : decode cX0_init 35 = .ok (.putfield 21, 3) := by decide +kernel
theorem dX0_init_38 : decode cX0_init 38 = .ok (.aload_n 0, 1) := by decide +kernel
theorem dX0_init_39 : decode cX0_init 39 = .ok (.sipush 512, 3) := by decide +kernel
theorem dX0_init_42 : decode cX0_init 42 = .ok (.newarray .int, 2) := by decide +kernel
theorem dX0_init_44 : decode cX0_init 44 = .ok (.putfield 24, 3) := by decide +kernel
theorem dX0_init_47 : decode cX0_init 47 = .ok (.aload_n 0, 1) := by decide +kernel
theorem dX0_init_48 : decode cX0_init 48 = .ok (.iconst 5, 1) := by decide +kernel
theorem dX0_init_49 : decode cX0_init 49 = .ok (.newarray .int, 2) := by decide +kernel
theorem dX0_init_51 : decode cX0_init 51 = .ok (.putfield 27, 3) := by decide +kernel
theorem dX0_init_54 : decode cX0_init 54 = .ok (.return_, 1) := by decide +kernel
set_option maxHeartbeats 4000000 in
set_option maxRecDepth 100000 in
theorem c_X0_init (l : Launch) (D : va_G) (h0 : Nat) (sz : Nat) : Met l yX0_init wsX0_init { frames := 1, cells := 6, slots := 1573, locals := 12 } (va_Pc [.ref h0] (fun U => U.heap.size = sz ∧ va_P D vwCl [(h0, .inr (0, [.int 0, .null, .null, .null, .null, .null, .null]))] U.heap ∧ va_K D vwCl [] U ∧ va_D (fun _ => True) [(h0, .inr (0, [.int 0, .null, .null, .null, .null, .null, .null]))] ∧ ∀ w ∈ sm_nest, va_Nw w U)) (va_Qv (fun _ : sm_A => True) (fun u t => va_P D vwCl [(h0, .inr (0, [.int 0, .ref (u.1 0), .ref (u.1 1), .ref (u.1 2), .ref (u.1 3), .ref (u.1 4), .ref (u.1 5)])), (u.1 0, .inl (u.2 0, 32, .inl (fun _ => 0))), (u.1 1, .inl (u.2 1, 32, .inl (fun _ => 0))), (u.1 2, .inl (u.2 2, 480, .inl (fun _ => 0))), (u.1 3, .inl (u.2 3, 512, .inl (fun _ => 0))), (u.1 4, .inl (u.2 4, 512, .inl (fun _ => 0))), (u.1 5, .inl (u.2 5, 5, .inl (fun _ => 0)))] t.heap ∧ va_K D vwCl [(u.2 0, .int), (u.2 1, .int), (u.2 2, .int), (u.2 3, .int), (u.2 4, .int), (u.2 5, .int)] t ∧ va_D (va_A [(h0, .inr (0, [.int 0, .null, .null, .null, .null, .null, .null]))] sz) [(h0, .inr (0, [.int 0, .ref (u.1 0), .ref (u.1 1), .ref (u.1 2), .ref (u.1 3), .ref (u.1 4), .ref (u.1 5)])), (u.1 0, .inl (u.2 0, 32, .inl (fun _ => 0))), (u.1 1, .inl (u.2 1, 32, .inl (fun _ => 0))), (u.1 2, .inl (u.2 2, 480, .inl (fun _ => 0))), (u.1 3, .inl (u.2 3, 512, .inl (fun _ => 0))), (u.1 4, .inl (u.2 4, 512, .inl (fun _ => 0))), (u.1 5, .inl (u.2 5, 5, .inl (fun _ => 0)))]) (va_A [(h0, .inr (0, [.int 0, .null, .null, .null, .null, .null, .null]))] sz)) 6 1573 (va_A [(h0, .inr (0, [.int 0, .null, .null, .null, .null, .null, .null]))] sz) := by
  refine Met.ofW (cc := cX0_init) (maxL := 1) (ret := none) (by decide) rfl ?_
  intro p e s m args below meth c s₁ B hml hv
  obtain ⟨rfl, hsz, hP, hK, hD0, hN⟩ := hv
  have hx := B.exec
  have hb := B.bytes
  have hr := B.returns
  have hts := atoms_spec (ws := wsX0_init) B.pre
  have hown : s.vm.findClass RX0 = some m.cls := findClass_of_methodNamed B.named
  have hlocks := B.notSynchronized
  have hin : meth.name = "<init>" := (name_of_methodNamed B.named B.method).1
  subst hsz
  have hD := hD0.self (sz := s.heap.size)
  generalize hAe : va_A [(h0, .inr (0, [.int 0, .null, .null, .null, .null, .null, .null]))] s.heap.size = A at hD ⊢
  have hA : ∀ q : Nat, s.heap.size ≤ q → A q := fun q h => by rw [← hAe]; exact Or.inr h
  have hS : va_S A s.heap s.heap [] := va_S.rf
  have in_X0 : ∀ w ∈ wsX00, w ∈ wsX0_init := by decide +kernel
  have k_0 := hts (.methodLink RX0 3 objectInit) (by decide +kernel)
  have k_1 := hts (.instanceMethod objectInit) (by decide +kernel)
  have k_2 := hts (.code objectInit ⟨#[0xb1]⟩ 1 none) (by decide +kernel)
  have k_3 := hts (.arrayClass .int) (by decide +kernel)
  have k_4 := hts (.fieldLink RX0 9 "SteadyMachine$Classes" "upper" "[I") (by decide +kernel)
  have k_5 := hts (.fieldLink RX0 15 "SteadyMachine$Classes" "fields" "[I") (by decide +kernel)
  have k_6 := hts (.fieldLink RX0 18 "SteadyMachine$Classes" "fieldType" "[I") (by decide +kernel)
  have k_7 := hts (.fieldLink RX0 21 "SteadyMachine$Classes" "slot" "[I") (by decide +kernel)
  have k_8 := hts (.fieldLink RX0 24 "SteadyMachine$Classes" "slotPlace" "[I") (by decide +kernel)
  have k_9 := hts (.fieldLink RX0 27 "SteadyMachine$Classes" "thrown" "[I") (by decide +kernel)
  have hl := lv_entry ([.ref h0]) (n := 1) (Nat.le_of_ble_eq_true rfl)
  rw [lg_entry_eq]
  generalize (lg_sl ([.ref h0]) ++ List.replicate (1 - (lg_sl ([.ref h0])).length) Slot.unset).toArray = ls at hl ⊢
  have hl : lv_has ls 1 [(0, .ref h0)] := hl
  refine lv_aload_n hx hb dX0_init_0 rfl (lv_at hl 0 rfl) ?_
  refine W.objInit hx hb hown k_0 k_1 k_2 rfl (by rw [hml]; exact hl.1) rfl dX0_init_1 (Nat.le_of_ble_eq_true rfl) (Nat.le_of_ble_eq_true rfl) ?_
  refine W.eq (g2 := F0 m 4 ls []) rfl ?_
  refine lv_aload_n hx hb dX0_init_4 rfl (lv_at hl 0 rfl) ?_
  refine lv_bipush (v := 32) hx hb dX0_init_5 (by decide) ?_
  refine va_newa (atype := .int) (ty := .int) (n := 32) (N' := 32) (a0 := (32, .inl (fun _ => 0))) hx hb k_3 rfl hK hP hD hS hA (fun _ => rfl) (by decide) (by decide) (by decide) (Nat.le_of_ble_eq_true rfl) (Nat.le_of_ble_eq_true rfl) dX0_init_7 (fun q0 c0 H hK hP hD hS => ?_)
  have hP : va_P D vwCl [(h0, .inr (0, [.int 0, .null, .null, .null, .null, .null, .null])), (q0, .inl (c0, 32, .inl (fun _ => 0)))] H := hP
  have hD : va_D A [(h0, .inr (0, [.int 0, .null, .null, .null, .null, .null, .null])), (q0, .inl (c0, 32, .inl (fun _ => 0)))] := hD
  have hK : va_K D vwCl [(c0, .int)] s := hK
  refine W.widen (k := 1) (n := 32) (by omega) (by omega) ?_
  refine va_putF (D := D) (ci := 0) (v := .ref q0) (ty := .array .int) (C := RX0) (T := TX0) (N := 7) hx hb hts in_X0 tyX0 tyX0_ok nmX0 hown hK hP hD hS 0 rfl rfl 1 (by decide) k_4 (fun _ h9 => h9) rfl hin rfl (by decide +kernel) rfl rfl (Nat.le_of_ble_eq_true rfl) dX0_init_9 (fun H locs hP hD hS => ?_)
  have hP : va_P D vwCl [(h0, .inr (0, [.int 0, .ref q0, .null, .null, .null, .null, .null])), (q0, .inl (c0, 32, .inl (fun _ => 0)))] H := hP
  have hD : va_D A [(h0, .inr (0, [.int 0, .ref q0, .null, .null, .null, .null, .null])), (q0, .inl (c0, 32, .inl (fun _ => 0)))] := hD
  refine lv_aload_n hx hb dX0_init_12 rfl (lv_at hl 0 rfl) ?_
  refine lv_bipush (v := 32) hx hb dX0_init_13 (by decide) ?_
  refine va_newa (atype := .int) (ty := .int) (n := 32) (N' := 32) (a0 := (32, .inl (fun _ => 0))) hx hb k_3 rfl hK hP hD hS hA (fun _ => rfl) (by decide) (by decide) (by decide) (Nat.le_of_ble_eq_true rfl) (Nat.le_of_ble_eq_true rfl) dX0_init_15 (fun q1 c1 H hK hP hD hS => ?_)
  have hP : va_P D vwCl [(h0, .inr (0, [.int 0, .ref q0, .null, .null, .null, .null, .null])), (q0, .inl (c0, 32, .inl (fun _ => 0))), (q1, .inl (c1, 32, .inl (fun _ => 0)))] H := hP
  have hD : va_D A [(h0, .inr (0, [.int 0, .ref q0, .null, .null, .null, .null, .null])), (q0, .inl (c0, 32, .inl (fun _ => 0))), (q1, .inl (c1, 32, .inl (fun _ => 0)))] := hD
  have hK : va_K D vwCl [(c0, .int), (c1, .int)] s := hK
  refine W.widen (k := 2) (n := 64) (by omega) (by omega) ?_
  refine va_putF (D := D) (ci := 0) (v := .ref q1) (ty := .array .int) (C := RX0) (T := TX0) (N := 7) hx hb hts in_X0 tyX0 tyX0_ok nmX0 hown hK hP hD hS 0 rfl rfl 2 (by decide) k_5 (fun _ h9 => h9) rfl hin rfl (by decide +kernel) rfl rfl (Nat.le_of_ble_eq_true rfl) dX0_init_17 (fun H locs hP hD hS => ?_)
  have hP : va_P D vwCl [(h0, .inr (0, [.int 0, .ref q0, .ref q1, .null, .null, .null, .null])), (q0, .inl (c0, 32, .inl (fun _ => 0))), (q1, .inl (c1, 32, .inl (fun _ => 0)))] H := hP
  have hD : va_D A [(h0, .inr (0, [.int 0, .ref q0, .ref q1, .null, .null, .null, .null])), (q0, .inl (c0, 32, .inl (fun _ => 0))), (q1, .inl (c1, 32, .inl (fun _ => 0)))] := hD
  refine lv_aload_n hx hb dX0_init_20 rfl (lv_at hl 0 rfl) ?_
  refine lv_sipush (v := 480) hx hb dX0_init_21 (by decide) ?_
  refine va_newa (atype := .int) (ty := .int) (n := 480) (N' := 480) (a0 := (480, .inl (fun _ => 0))) hx hb k_3 rfl hK hP hD hS hA (fun _ => rfl) (by decide) (by decide) (by decide) (Nat.le_of_ble_eq_true rfl) (Nat.le_of_ble_eq_true rfl) dX0_init_24 (fun q2 c2 H hK hP hD hS => ?_)
  have hP : va_P D vwCl [(h0, .inr (0, [.int 0, .ref q0, .ref q1, .null, .null, .null, .null])), (q0, .inl (c0, 32, .inl (fun _ => 0))), (q1, .inl (c1, 32, .inl (fun _ => 0))), (q2, .inl (c2, 480, .inl (fun _ => 0)))] H := hP
  have hD : va_D A [(h0, .inr (0, [.int 0, .ref q0, .ref q1, .null, .null, .null, .null])), (q0, .inl (c0, 32, .inl (fun _ => 0))), (q1, .inl (c1, 32, .inl (fun _ => 0))), (q2, .inl (c2, 480, .inl (fun _ => 0)))] := hD
  have hK : va_K D vwCl [(c0, .int), (c1, .int), (c2, .int)] s := hK
  refine W.widen (k := 3) (n := 544) (by omega) (by omega) ?_
  refine va_putF (D := D) (ci := 0) (v := .ref q2) (ty := .array .int) (C := RX0) (T := TX0) (N := 7) hx hb hts in_X0 tyX0 tyX0_ok nmX0 hown hK hP hD hS 0 rfl rfl 3 (by decide) k_6 (fun _ h9 => h9) rfl hin rfl (by decide +kernel) rfl rfl (Nat.le_of_ble_eq_true rfl) dX0_init_26 (fun H locs hP hD hS => ?_)
  have hP : va_P D vwCl [(h0, .inr (0, [.int 0, .ref q0, .ref q1, .ref q2, .null, .null, .null])), (q0, .inl (c0, 32, .inl (fun _ => 0))), (q1, .inl (c1, 32, .inl (fun _ => 0))), (q2, .inl (c2, 480, .inl (fun _ => 0)))] H := hP
  have hD : va_D A [(h0, .inr (0, [.int 0, .ref q0, .ref q1, .ref q2, .null, .null, .null])), (q0, .inl (c0, 32, .inl (fun _ => 0))), (q1, .inl (c1, 32, .inl (fun _ => 0))), (q2, .inl (c2, 480, .inl (fun _ => 0)))] := hD
  refine lv_aload_n hx hb dX0_init_29 rfl (lv_at hl 0 rfl) ?_
  refine lv_sipush (v := 512) hx hb dX0_init_30 (by decide) ?_
  refine va_newa (atype := .int) (ty := .int) (n := 512) (N' := 512) (a0 := (512, .inl (fun _ => 0))) hx hb k_3 rfl hK hP hD hS hA (fun _ => rfl) (by decide) (by decide) (by decide) (Nat.le_of_ble_eq_true rfl) (Nat.le_of_ble_eq_true rfl) dX0_init_33 (fun q3 c3 H hK hP hD hS => ?_)
  have hP : va_P D vwCl [(h0, .inr (0, [.int 0, .ref q0, .ref q1, .ref q2, .null, .null, .null])), (q0, .inl (c0, 32, .inl (fun _ => 0))), (q1, .inl (c1, 32, .inl (fun _ => 0))), (q2, .inl (c2, 480, .inl (fun _ => 0))), (q3, .inl (c3, 512, .inl (fun _ => 0)))] H := hP
  have hD : va_D A [(h0, .inr (0, [.int 0, .ref q0, .ref q1, .ref q2, .null, .null, .null])), (q0, .inl (c0, 32, .inl (fun _ => 0))), (q1, .inl (c1, 32, .inl (fun _ => 0))), (q2, .inl (c2, 480, .inl (fun _ => 0))), (q3, .inl (c3, 512, .inl (fun _ => 0)))] := hD
  have hK : va_K D vwCl [(c0, .int), (c1, .int), (c2, .int), (c3, .int)] s := hK
  refine W.widen (k := 4) (n := 1056) (by omega) (by omega) ?_
  refine va_putF (D := D) (ci := 0) (v := .ref q3) (ty := .array .int) (C := RX0) (T := TX0) (N := 7) hx hb hts in_X0 tyX0 tyX0_ok nmX0 hown hK hP hD hS 0 rfl rfl 4 (by decide) k_7 (fun _ h9 => h9) rfl hin rfl (by decide +kernel) rfl rfl (Nat.le_of_ble_eq_true rfl) dX0_init_35 (fun H locs hP hD hS => ?_)
  have hP : va_P D vwCl [(h0, .inr (0, [.int 0, .ref q0, .ref q1, .ref q2, .ref q3, .null, .null])), (q0, .inl (c0, 32, .inl (fun _ => 0))), (q1, .inl (c1, 32, .inl (fun _ => 0))), (q2, .inl (c2, 480, .inl (fun _ => 0))), (q3, .inl (c3, 512, .inl (fun _ => 0)))] H := hP
  have hD : va_D A [(h0, .inr (0, [.int 0, .ref q0, .ref q1, .ref q2, .ref q3, .null, .null])), (q0, .inl (c0, 32, .inl (fun _ => 0))), (q1, .inl (c1, 32, .inl (fun _ => 0))), (q2, .inl (c2, 480, .inl (fun _ => 0))), (q3, .inl (c3, 512, .inl (fun _ => 0)))] := hD
  refine lv_aload_n hx hb dX0_init_38 rfl (lv_at hl 0 rfl) ?_
  refine lv_sipush (v := 512) hx hb dX0_init_39 (by decide) ?_
  refine va_newa (atype := .int) (ty := .int) (n := 512) (N' := 512) (a0 := (512, .inl (fun _ => 0))) hx hb k_3 rfl hK hP hD hS hA (fun _ => rfl) (by decide) (by decide) (by decide) (Nat.le_of_ble_eq_true rfl) (Nat.le_of_ble_eq_true rfl) dX0_init_42 (fun q4 c4 H hK hP hD hS => ?_)
  have hP : va_P D vwCl [(h0, .inr (0, [.int 0, .ref q0, .ref q1, .ref q2, .ref q3, .null, .null])), (q0, .inl (c0, 32, .inl (fun _ => 0))), (q1, .inl (c1, 32, .inl (fun _ => 0))), (q2, .inl (c2, 480, .inl (fun _ => 0))), (q3, .inl (c3, 512, .inl (fun _ => 0))), (q4, .inl (c4, 512, .inl (fun _ => 0)))] H := hP
  have hD : va_D A [(h0, .inr (0, [.int 0, .ref q0, .ref q1, .ref q2, .ref q3, .null, .null])), (q0, .inl (c0, 32, .inl (fun _ => 0))), (q1, .inl (c1, 32, .inl (fun _ => 0))), (q2, .inl (c2, 480, .inl (fun _ => 0))), (q3, .inl (c3, 512, .inl (fun _ => 0))), (q4, .inl (c4, 512, .inl (fun _ => 0)))] := hD
  have hK : va_K D vwCl [(c0, .int), (c1, .int), (c2, .int), (c3, .int), (c4, .int)] s := hK
  refine W.widen (k := 5) (n := 1568) (by omega) (by omega) ?_
  refine va_putF (D := D) (ci := 0) (v := .ref q4) (ty := .array .int) (C := RX0) (T := TX0) (N := 7) hx hb hts in_X0 tyX0 tyX0_ok nmX0 hown hK hP hD hS 0 rfl rfl 5 (by decide) k_8 (fun _ h9 => h9) rfl hin rfl (by decide +kernel) rfl rfl (Nat.le_of_ble_eq_true rfl) dX0_init_44 (fun H locs hP hD hS => ?_)
  have hP : va_P D vwCl [(h0, .inr (0, [.int 0, .ref q0, .ref q1, .ref q2, .ref q3, .ref q4, .null])), (q0, .inl (c0, 32, .inl (fun _ => 0))), (q1, .inl (c1, 32, .inl (fun _ => 0))), (q2, .inl (c2, 480, .inl (fun _ => 0))), (q3, .inl (c3, 512, .inl (fun _ => 0))), (q4, .inl (c4, 512, .inl (fun _ => 0)))] H := hP
  have hD : va_D A [(h0, .inr (0, [.int 0, .ref q0, .ref q1, .ref q2, .ref q3, .ref q4, .null])), (q0, .inl (c0, 32, .inl (fun _ => 0))), (q1, .inl (c1, 32, .inl (fun _ => 0))), (q2, .inl (c2, 480, .inl (fun _ => 0))), (q3, .inl (c3, 512, .inl (fun _ => 0))), (q4, .inl (c4, 512, .inl (fun _ => 0)))] := hD
  refine lv_aload_n hx hb dX0_init_47 rfl (lv_at hl 0 rfl) ?_
  refine lv_iconst (v := 5) hx hb dX0_init_48 (by decide) ?_
  refine va_newa (atype := .int) (ty := .int) (n := 5) (N' := 5) (a0 := (5, .inl (fun _ => 0))) hx hb k_3 rfl hK hP hD hS hA (fun _ => rfl) (by decide) (by decide) (by decide) (Nat.le_of_ble_eq_true rfl) (Nat.le_of_ble_eq_true rfl) dX0_init_49 (fun q5 c5 H hK hP hD hS => ?_)
  have hP : va_P D vwCl [(h0, .inr (0, [.int 0, .ref q0, .ref q1, .ref q2, .ref q3, .ref q4, .null])), (q0, .inl (c0, 32, .inl (fun _ => 0))), (q1, .inl (c1, 32, .inl (fun _ => 0))), (q2, .inl (c2, 480, .inl (fun _ => 0))), (q3, .inl (c3, 512, .inl (fun _ => 0))), (q4, .inl (c4, 512, .inl (fun _ => 0))), (q5, .inl (c5, 5, .inl (fun _ => 0)))] H := hP
  have hD : va_D A [(h0, .inr (0, [.int 0, .ref q0, .ref q1, .ref q2, .ref q3, .ref q4, .null])), (q0, .inl (c0, 32, .inl (fun _ => 0))), (q1, .inl (c1, 32, .inl (fun _ => 0))), (q2, .inl (c2, 480, .inl (fun _ => 0))), (q3, .inl (c3, 512, .inl (fun _ => 0))), (q4, .inl (c4, 512, .inl (fun _ => 0))), (q5, .inl (c5, 5, .inl (fun _ => 0)))] := hD
  have hK : va_K D vwCl [(c0, .int), (c1, .int), (c2, .int), (c3, .int), (c4, .int), (c5, .int)] s := hK
  refine W.widen (k := 6) (n := 1573) (by omega) (by omega) ?_
  refine va_putF (D := D) (ci := 0) (v := .ref q5) (ty := .array .int) (C := RX0) (T := TX0) (N := 7) hx hb hts in_X0 tyX0 tyX0_ok nmX0 hown hK hP hD hS 0 rfl rfl 6 (by decide) k_9 (fun _ h9 => h9) rfl hin rfl (by decide +kernel) rfl rfl (Nat.le_of_ble_eq_true rfl) dX0_init_51 (fun H locs hP hD hS => ?_)
  have hP : va_P D vwCl [(h0, .inr (0, [.int 0, .ref q0, .ref q1, .ref q2, .ref q3, .ref q4, .ref q5])), (q0, .inl (c0, 32, .inl (fun _ => 0))), (q1, .inl (c1, 32, .inl (fun _ => 0))), (q2, .inl (c2, 480, .inl (fun _ => 0))), (q3, .inl (c3, 512, .inl (fun _ => 0))), (q4, .inl (c4, 512, .inl (fun _ => 0))), (q5, .inl (c5, 5, .inl (fun _ => 0)))] H := hP
  have hD : va_D A [(h0, .inr (0, [.int 0, .ref q0, .ref q1, .ref q2, .ref q3, .ref q4, .ref q5])), (q0, .inl (c0, 32, .inl (fun _ => 0))), (q1, .inl (c1, 32, .inl (fun _ => 0))), (q2, .inl (c2, 480, .inl (fun _ => 0))), (q3, .inl (c3, 512, .inl (fun _ => 0))), (q4, .inl (c4, 512, .inl (fun _ => 0))), (q5, .inl (c5, 5, .inl (fun _ => 0)))] := hD
  have hP9 := hP.sub (ws' := [(h0, .inr (0, [.int 0, .ref q0, .ref q1, .ref q2, .ref q3, .ref q4, .ref q5])), (q0, .inl (c0, 32, .inl (fun _ => 0))), (q1, .inl (c1, 32, .inl (fun _ => 0))), (q2, .inl (c2, 480, .inl (fun _ => 0))), (q3, .inl (c3, 512, .inl (fun _ => 0))), (q4, .inl (c4, 512, .inl (fun _ => 0))), (q5, .inl (c5, 5, .inl (fun _ => 0)))]) [0, 1, 2, 3, 4, 5, 6] rfl
  have hD9 := hD.sub (ws' := [(h0, .inr (0, [.int 0, .ref q0, .ref q1, .ref q2, .ref q3, .ref q4, .ref q5])), (q0, .inl (c0, 32, .inl (fun _ => 0))), (q1, .inl (c1, 32, .inl (fun _ => 0))), (q2, .inl (c2, 480, .inl (fun _ => 0))), (q3, .inl (c3, 512, .inl (fun _ => 0))), (q4, .inl (c4, 512, .inl (fun _ => 0))), (q5, .inl (c5, 5, .inl (fun _ => 0)))]) [0, 1, 2, 3, 4, 5, 6] (by decide) rfl
  have hK9 := hK.sub (tys' := [(c0, .int), (c1, .int), (c2, .int), (c3, .int), (c4, .int), (c5, .int)]) [0, 1, 2, 3, 4, 5] rfl
  exact W.vret hx hb hr (fun t ht hW => ⟨⟨((fun j => if j = 0 then q0 else if j = 1 then q1 else if j = 2 then q2 else if j = 3 then q3 else if j = 4 then q4 else if j = 5 then q5 else 0), (fun j => if j = 0 then c0 else if j = 1 then c1 else if j = 2 then c2 else if j = 3 then c3 else if j = 4 then c4 else if j = 5 then c5 else c0)), rfl, trivial, by rw [ht]; exact hP9, va_K.moved hW.alike hK9, hD9⟩, hS.F ht⟩) hS.2.2 dX0_init_54

theorem dX4_init_0 : decode cX4_init 0 = .ok (.aload_n 0, 1) := by decide +kernel
theorem dX4_init_1 : decode cX4_init 1 = .ok (.invokespecial 3, 3) := by decide +kernel
theorem dX4_init_4 : decode cX4_init 4 = .ok (.aload_n 0, 1) := by decide +kernel
theorem dX4_init_5 : decode cX4_init 5 = .ok (.bipush 64, 2) := by decide +kernel
theorem dX4_init_7 : decode cX4_init 7 = .ok (.newarray .int, 2) := by decide +kernel
theorem dX4_init_9 : decode cX4_init 9 = .ok (.putfield 9, 3) := by decide +kernel
theorem dX4_init_12 : decode cX4_init 12 = .ok (.aload_n 0, 1) := by decide +kernel
theorem dX4_init_13 : decode cX4_init 13 = .ok (.bipush 64, 2) := by decide +kernel
theorem dX4_init_15 : decode cX4_init 15 = .ok (.newarray .int, 2) := by decide +kernel
theorem dX4_init_17 : decode cX4_init 17 = .ok (.putfield 15, 3) := by decide +kernel
theorem dX4_init_20 : decode cX4_init 20 = .ok (.aload_n 0, 1) := by decide +kernel
theorem dX4_init_21 : decode cX4_init 21 = .ok (.sipush 512, 3) := by decide +kernel
theorem dX4_init_24 : decode cX4_init 24 = .ok (.newarray .int, 2) := by decide +kernel
theorem dX4_init_26 : decode cX4_init 26 = .ok (.putfield 18, 3) := by decide +kernel
theorem dX4_init_29 : decode cX4_init 29 = .ok (.aload_n 0, 1) := by decide +kernel
theorem dX4_init_30 : decode cX4_init 30 = .ok (.bipush 64, 2) := by decide +kernel
theorem dX4_init_32 : decode cX4_init 32 = .ok (.newarray .int, 2) := by decide +kernel
theorem dX4_init_34 : decode cX4_init 34 = .ok (.putfield 21, 3) := by decide +kernel
theorem dX4_init_37 : decode cX4_init 37 = .ok (.aload_n 0, 1) := by decide +kernel
theorem dX4_init_38 : decode cX4_init 38 = .ok (.bipush 64, 2) := by decide +kernel
theorem dX4_init_40 : decode cX4_init 40 = .ok (.newarray .int, 2) := by decide +kernel
theorem dX4_init_42 : decode cX4_init 42 = .ok (.putfield 24, 3) := by decide +kernel
theorem dX4_init_45 : decode cX4_init 45 = .ok (.aload_n 0, 1) := by decide +kernel
theorem dX4_init_46 : decode cX4_init 46 = .ok (.bipush 64, 2) := by decide +kernel
theorem dX4_init_48 : decode cX4_init 48 = .ok (.newarray .int, 2) := by decide +kernel
theorem dX4_init_50 : decode cX4_init 50 = .ok (.putfield 27, 3) := by decide +kernel
theorem dX4_init_53 : decode cX4_init 53 = .ok (.aload_n 0, 1) := by decide +kernel
theorem dX4_init_54 : decode cX4_init 54 = .ok (.bipush 64, 2) := by decide +kernel
theorem dX4_init_56 : decode cX4_init 56 = .ok (.newarray .int, 2) := by decide +kernel
theorem dX4_init_58 : decode cX4_init 58 = .ok (.putfield 30, 3) := by decide +kernel
theorem dX4_init_61 : decode cX4_init 61 = .ok (.aload_n 0, 1) := by decide +kernel
theorem dX4_init_62 : decode cX4_init 62 = .ok (.bipush 64, 2) := by decide +kernel
theorem dX4_init_64 : decode cX4_init 64 = .ok (.newarray .int, 2) := by decide +kernel
theorem dX4_init_66 : decode cX4_init 66 = .ok (.putfield 33, 3) := by decide +kernel
theorem dX4_init_69 : decode cX4_init 69 = .ok (.aload_n 0, 1) := by decide +kernel
theorem dX4_init_70 : decode cX4_init 70 = .ok (.bipush 64, 2) := by decide +kernel
theorem dX4_init_72 : decode cX4_init 72 = .ok (.newarray .int, 2) := by decide +kernel
theorem dX4_init_74 : decode cX4_init 74 = .ok (.putfield 36, 3) := by decide +kernel
theorem dX4_init_77 : decode cX4_init 77 = .ok (.aload_n 0, 1) := by decide +kernel
theorem dX4_init_78 : decode cX4_init 78 = .ok (.bipush 64, 2) := by decide +kernel
theorem dX4_init_80 : decode cX4_init 80 = .ok (.newarray .int, 2) := by decide +kernel
theorem dX4_init_82 : decode cX4_init 82 = .ok (.putfield 39, 3) := by decide +kernel
theorem dX4_init_85 : decode cX4_init 85 = .ok (.return_, 1) := by decide +kernel
set_option maxHeartbeats 4000000 in
set_option maxRecDepth 100000 in
theorem c_X4_init (l : Launch) (D : va_G) (h0 : Nat) (sz : Nat) : Met l yX4_init wsX4_init { frames := 1, cells := 10, slots := 1088, locals := 12 } (va_Pc [.ref h0] (fun U => U.heap.size = sz ∧ va_P D vwCl [(h0, .inr (4, [.int 0, .int 0, .null, .null, .null, .null, .null, .null, .null, .null, .null, .null]))] U.heap ∧ va_K D vwCl [] U ∧ va_D (fun _ => True) [(h0, .inr (4, [.int 0, .int 0, .null, .null, .null, .null, .null, .null, .null, .null, .null, .null]))] ∧ ∀ w ∈ sm_nest, va_Nw w U)) (va_Qv (fun _ : sm_A => True) (fun u t => va_P D vwCl [(h0, .inr (4, [.int 0, .int 0, .ref (u.1 0), .ref (u.1 1), .ref (u.1 2), .ref (u.1 3), .ref (u.1 4), .ref (u.1 5), .ref (u.1 6), .ref (u.1 7), .ref (u.1 8), .ref (u.1 9)])), (u.1 0, .inl (u.2 0, 64, .inl (fun _ => 0))), (u.1 1, .inl (u.2 1, 64, .inl (fun _ => 0))), (u.1 2, .inl (u.2 2, 512, .inl (fun _ => 0))), (u.1 3, .inl (u.2 3, 64, .inl (fun _ => 0))), (u.1 4, .inl (u.2 4, 64, .inl (fun _ => 0))), (u.1 5, .inl (u.2 5, 64, .inl (fun _ => 0))), (u.1 6, .inl (u.2 6, 64, .inl (fun _ => 0))), (u.1 7, .inl (u.2 7, 64, .inl (fun _ => 0))), (u.1 8, .inl (u.2 8, 64, .inl (fun _ => 0))), (u.1 9, .inl (u.2 9, 64, .inl (fun _ => 0)))] t.heap ∧ va_K D vwCl [(u.2 0, .int), (u.2 1, .int), (u.2 2, .int), (u.2 3, .int), (u.2 4, .int), (u.2 5, .int), (u.2 6, .int), (u.2 7, .int), (u.2 8, .int), (u.2 9, .int)] t ∧ va_D (va_A [(h0, .inr (4, [.int 0, .int 0, .null, .null, .null, .null, .null, .null, .null, .null, .null, .null]))] sz) [(h0, .inr (4, [.int 0, .int 0, .ref (u.1 0), .ref (u.1 1), .ref (u.1 2), .ref (u.1 3), .ref (u.1 4), .ref (u.1 5), .ref (u.1 6), .ref (u.1 7), .ref (u.1 8), .ref (u.1 9)])), (u.1 0, .inl (u.2 0, 64, .inl (fun _ => 0))), (u.1 1, .inl (u.2 1, 64, .inl (fun _ => 0))), (u.1 2, .inl (u.2 2, 512, .inl (fun _ => 0))), (u.1 3, .inl (u.2 3, 64, .inl (fun _ => 0))), (u.1 4, .inl (u.2 4, 64, .inl (fun _ => 0))), (u.1 5, .inl (u.2 5, 64, .inl (fun _ => 0))), (u.1 6, .inl (u.2 6, 64, .inl (fun _ => 0))), (u.1 7, .inl (u.2 7, 64, .inl (fun _ => 0))), (u.1 8, .inl (u.2 8, 64, .inl (fun _ => 0))), (u.1 9, .inl (u.2 9, 64, .inl (fun _ => 0)))]) (va_A [(h0, .inr (4, [.int 0, .int 0, .null, .null, .null, .null, .null, .null, .null, .null, .null, .null]))] sz)) 10 1088 (va_A [(h0, .inr (4, [.int 0, .int 0, .null, .null, .null, .null, .null, .null, .null, .null, .null, .null]))] sz) := by
  refine Met.ofW (cc := cX4_init) (maxL := 1) (ret := none) (by decide) rfl ?_
  intro p e s m args below meth c s₁ B hml hv
  obtain ⟨rfl, hsz, hP, hK, hD0, hN⟩ := hv
  have hx := B.exec
  have hb := B.bytes
  have hr := B.returns
  have hts := atoms_spec (ws := wsX4_init) B.pre
  have hown : s.vm.findClass RX4 = some m.cls := findClass_of_methodNamed B.named
  have hlocks := B.notSynchronized
  have hin : meth.name = "<init>" := (name_of_methodNamed B.named B.method).1
  subst hsz
  have hD := hD0.self (sz := s.heap.size)
  generalize hAe : va_A [(h0, .inr (4, [.int 0, .int 0, .null, .null, .null, .null, .null, .null, .null, .null, .null, .null]))] s.heap.size = A at hD ⊢
  have hA : ∀ q : Nat, s.heap.size ≤ q → A q := fun q h => by rw [← hAe]; exact Or.inr h
  have hS : va_S A s.heap s.heap [] := va_S.rf
  have in_X4 : ∀ w ∈ wsX40, w ∈ wsX4_init := by decide +kernel
  have k_0 := hts (.methodLink RX4 3 objectInit) (by decide +kernel)
  have k_1 := hts (.instanceMethod objectInit) (by decide +kernel)
  have k_2 := hts (.code objectInit ⟨#[0xb1]⟩ 1 none) (by decide +kernel)
  have k_3 := hts (.arrayClass .int) (by decide +kernel)
  have k_4 := hts (.fieldLink RX4 9 "SteadyMachine$Methods" "owner" "[I") (by decide +kernel)
  have k_5 := hts (.fieldLink RX4 15 "SteadyMachine$Methods" "params" "[I") (by decide +kernel)
  have k_6 := hts (.fieldLink RX4 18 "SteadyMachine$Methods" "paramType" "[I") (by decide +kernel)
  have k_7 := hts (.fieldLink RX4 21 "SteadyMachine$Methods" "gives" "[I") (by decide +kernel)
  have k_8 := hts (.fieldLink RX4 24 "SteadyMachine$Methods" "locals" "[I") (by decide +kernel)
  have k_9 := hts (.fieldLink RX4 27 "SteadyMachine$Methods" "stack" "[I") (by decide +kernel)
  have k_10 := hts (.fieldLink RX4 30 "SteadyMachine$Methods" "code" "[I") (by decide +kernel)
  have k_11 := hts (.fieldLink RX4 33 "SteadyMachine$Methods" "length" "[I") (by decide +kernel)
  have k_12 := hts (.fieldLink RX4 36 "SteadyMachine$Methods" "handlers" "[I") (by decide +kernel)
  have k_13 := hts (.fieldLink RX4 39 "SteadyMachine$Methods" "handlerPlace" "[I") (by decide +kernel)
  have hl := lv_entry ([.ref h0]) (n := 1) (Nat.le_of_ble_eq_true rfl)
  rw [lg_entry_eq]
  generalize (lg_sl ([.ref h0]) ++ List.replicate (1 - (lg_sl ([.ref h0])).length) Slot.unset).toArray = ls at hl ⊢
  have hl : lv_has ls 1 [(0, .ref h0)] := hl
  refine lv_aload_n hx hb dX4_init_0 rfl (lv_at hl 0 rfl) ?_
  refine W.objInit hx hb hown k_0 k_1 k_2 rfl (by rw [hml]; exact hl.1) rfl dX4_init_1 (Nat.le_of_ble_eq_true rfl) (Nat.le_of_ble_eq_true rfl) ?_
  refine W.eq (g2 := F0 m 4 ls []) rfl ?_
  refine lv_aload_n hx hb dX4_init_4 rfl (lv_at hl 0 rfl) ?_
  refine lv_bipush (v := 64) hx hb dX4_init_5 (by decide) ?_
  refine va_newa (atype := .int) (ty := .int) (n := 64) (N' := 64) (a0 := (64, .inl (fun _ => 0))) hx hb k_3 rfl hK hP hD hS hA (fun _ => rfl) (by decide) (by decide) (by decide) (Nat.le_of_ble_eq_true rfl) (Nat.le_of_ble_eq_true rfl) dX4_init_7 (fun q0 c0 H hK hP hD hS => ?_)
  have hP : va_P D vwCl [(h0, .inr (4, [.int 0, .int 0, .null, .null, .null, .null, .null, .null, .null, .null, .null, .null])), (q0, .inl (c0, 64, .inl (fun _ => 0)))] H := hP
  have hD : va_D A [(h0, .inr (4, [.int 0, .int 0, .null, .null, .null, .null, .null, .null, .null, .null, .null, .null])), (q0, .inl (c0, 64, .inl (fun _ => 0)))] := hD
  have hK : va_K D vwCl [(c0, .int)] s := hK
  refine W.widen (k := 1) (n := 64) (by omega) (by omega) ?_
  refine va_putF (D := D) (ci := 4) (v := .ref q0) (ty := .array .int) (C := RX4) (T := TX4) (N := 12) hx hb hts in_X4 tyX4 tyX4_ok nmX4 hown hK hP hD hS 0 rfl rfl 2 (by decide) k_4 (fun _ h9 => h9) rfl hin rfl (by decide +kernel) rfl rfl (Nat.le_of_ble_eq_true rfl) dX4_init_9 (fun H locs hP hD hS => ?_)
  have hP : va_P D vwCl [(h0, .inr (4, [.int 0, .int 0, .ref q0, .null, .null, .null, .null, .null, .null, .null, .null, .null])), (q0, .inl (c0, 64, .inl (fun _ => 0)))] H := hP
  have hD : va_D A [(h0, .inr (4, [.int 0, .int 0, .ref q0, .null, .null, .null, .null, .null, .null, .null, .null, .null])), (q0, .inl (c0, 64, .inl (fun _ => 0)))] := hD
  refine lv_aload_n hx hb dX4_init_12 rfl (lv_at hl 0 rfl) ?_
  refine lv_bipush (v := 64) hx hb dX4_init_13 (by decide) ?_
  refine va_newa (atype := .int) (ty := .int) (n := 64) (N' := 64) (a0 := (64, .inl (fun _ => 0))) hx hb k_3 rfl hK hP hD hS hA (fun _ => rfl) (by decide) (by decide) (by decide) (Nat.le_of_ble_eq_true rfl) (Nat.le_of_ble_eq_true rfl) dX4_init_15 (fun q1 c1 H hK hP hD hS => ?_)
  have hP : va_P D vwCl [(h0, .inr (4, [.int 0, .int 0, .ref q0, .null, .null, .null, .null, .null, .null, .null, .null, .null])), (q0, .inl (c0, 64, .inl (fun _ => 0))), (q1, .inl (c1, 64, .inl (fun _ => 0)))] H := hP
  have hD : va_D A [(h0, .inr (4, [.int 0, .int 0, .ref q0, .null, .null, .null, .null, .null, .null, .null, .null, .null])), (q0, .inl (c0, 64, .inl (fun _ => 0))), (q1, .inl (c1, 64, .inl (fun _ => 0)))] := hD
  have hK : va_K D vwCl [(c0, .int), (c1, .int)] s := hK
  refine W.widen (k := 2) (n := 128) (by omega) (by omega) ?_
  refine va_putF (D := D) (ci := 4) (v := .ref q1) (ty := .array .int) (C := RX4) (T := TX4) (N := 12) hx hb hts in_X4 tyX4 tyX4_ok nmX4 hown hK hP hD hS 0 rfl rfl 3 (by decide) k_5 (fun _ h9 => h9) rfl hin rfl (by decide +kernel) rfl rfl (Nat.le_of_ble_eq_true rfl) dX4_init_17 (fun H locs hP hD hS => ?_)
  have hP : va_P D vwCl [(h0, .inr (4, [.int 0, .int 0, .ref q0, .ref q1, .null, .null, .null, .null, .null, .null, .null, .null])), (q0, .inl (c0, 64, .inl (fun _ => 0))), (q1, .inl (c1, 64, .inl (fun _ => 0)))] H := hP
  have hD : va_D A [(h0, .inr (4, [.int 0, .int 0, .ref q0, .ref q1, .null, .null, .null, .null, .null, .null, .null, .null])), (q0, .inl (c0, 64, .inl (fun _ => 0))), (q1, .inl (c1, 64, .inl (fun _ => 0)))] := hD
  refine lv_aload_n hx hb dX4_init_20 rfl (lv_at hl 0 rfl) ?_
  refine lv_sipush (v := 512) hx hb dX4_init_21 (by decide) ?_
  refine va_newa (atype := .int) (ty := .int) (n := 512) (N' := 512) (a0 := (512, .inl (fun _ => 0))) hx hb k_3 rfl hK hP hD hS hA (fun _ => rfl) (by decide) (by decide) (by decide) (Nat.le_of_ble_eq_true rfl) (Nat.le_of_ble_eq_true rfl) dX4_init_24 (fun q2 c2 H hK hP hD hS => ?_)
  have hP : va_P D vwCl [(h0, .inr (4, [.int 0, .int 0, .ref q0, .ref q1, .null, .null, .null, .null, .null, .null, .null, .null])), (q0, .inl (c0, 64, .inl (fun _ => 0))), (q1, .inl (c1, 64, .inl (fun _ => 0))), (q2, .inl (c2, 512, .inl (fun _ => 0)))] H := hP
  have hD : va_D A [(h0, .inr (4, [.int 0, .int 0, .ref q0, .ref q1, .null, .null, .null, .null, .null, .null, .null, .null])), (q0, .inl (c0, 64, .inl (fun _ => 0))), (q1, .inl (c1, 64, .inl (fun _ => 0))), (q2, .inl (c2, 512, .inl (fun _ => 0)))] := hD
  have hK : va_K D vwCl [(c0, .int), (c1, .int), (c2, .int)] s := hK
  refine W.widen (k := 3) (n := 640) (by omega) (by omega) ?_
  refine va_putF (D := D) (ci := 4) (v := .ref q2) (ty := .array .int) (C := RX4) (T := TX4) (N := 12) hx hb hts in_X4 tyX4 tyX4_ok nmX4 hown hK hP hD hS 0 rfl rfl 4 (by decide) k_6 (fun _ h9 => h9) rfl hin rfl (by decide +kernel) rfl rfl (Nat.le_of_ble_eq_true rfl) dX4_init_26 (fun H locs hP hD hS => ?_)
  have hP : va_P D vwCl [(h0, .inr (4, [.int 0, .int 0, .ref q0, .ref q1, .ref q2, .null, .null, .null, .null, .null, .null, .null])), (q0, .inl (c0, 64, .inl (fun _ => 0))), (q1, .inl (c1, 64, .inl (fun _ => 0))), (q2, .inl (c2, 512, .inl (fun _ => 0)))] H := hP
  have hD : va_D A [(h0, .inr (4, [.int 0, .int 0, .ref q0, .ref q1, .ref q2, .null, .null, .null, .null, .null, .null, .null])), (q0, .inl (c0, 64, .inl (fun _ => 0))), (q1, .inl (c1, 64, .inl (fun _ => 0))), (q2, .inl (c2, 512, .inl (fun _ => 0)))] := hD
  refine lv_aload_n hx hb dX4_init_29 rfl (lv_at hl 0 rfl) ?_
  refine lv_bipush (v := 64) hx hb dX4_init_30 (by decide) ?_
  refine va_newa (atype := .int) (ty := .int) (n := 64) (N' := 64) (a0 := (64, .inl (fun _ => 0))) hx hb k_3 rfl hK hP hD hS hA (fun _ => rfl) (by decide) (by decide) (by decide) (Nat.le_of_ble_eq_true rfl) (Nat.le_of_ble_eq_true rfl) dX4_init_32 (fun q3 c3 H hK hP hD hS => ?_)
  have hP : va_P D vwCl [(h0, .inr (4, [.int 0, .int 0, .ref q0, .ref q1, .ref q2, .null, .null, .null, .null, .null, .null, .null])), (q0, .inl (c0, 64, .inl (fun _ => 0))), (q1, .inl (c1, 64, .inl (fun _ => 0))), (q2, .inl (c2, 512, .inl (fun _ => 0))), (q3, .inl (c3, 64, .inl (fun _ => 0)))] H := hP
  have hD : va_D A [(h0, .inr (4, [.int 0, .int 0, .ref q0, .ref q1, .ref q2, .null, .null, .null, .null, .null, .null, .null])), (q0, .inl (c0, 64, .inl (fun _ => 0))), (q1, .inl (c1, 64, .inl (fun _ => 0))), (q2, .inl (c2, 512, .inl (fun _ => 0))), (q3, .inl (c3, 64, .inl (fun _ => 0)))] := hD
  have hK : va_K D vwCl [(c0, .int), (c1, .int), (c2, .int), (c3, .int)] s := hK
  refine W.widen (k := 4) (n := 704) (by omega) (by omega) ?_
  refine va_putF (D := D) (ci := 4) (v := .ref q3) (ty := .array .int) (C := RX4) (T := TX4) (N := 12) hx hb hts in_X4 tyX4 tyX4_ok nmX4 hown hK hP hD hS 0 rfl rfl 5 (by decide) k_7 (fun _ h9 => h9) rfl hin rfl (by decide +kernel) rfl rfl (Nat.le_of_ble_eq_true rfl) dX4_init_34 (fun H locs hP hD hS => ?_)
  have hP : va_P D vwCl [(h0, .inr (4, [.int 0, .int 0, .ref q0, .ref q1, .ref q2, .ref q3, .null, .null, .null, .null, .null, .null])), (q0, .inl (c0, 64, .inl (fun _ => 0))), (q1, .inl (c1, 64, .inl (fun _ => 0))), (q2, .inl (c2, 512, .inl (fun _ => 0))), (q3, .inl (c3, 64, .inl (fun _ => 0)))] H := hP
  have hD : va_D A [(h0, .inr (4, [.int 0, .int 0, .ref q0, .ref q1, .ref q2, .ref q3, .null, .null, .null, .null, .null, .null])), (q0, .inl (c0, 64, .inl (fun _ => 0))), (q1, .inl (c1, 64, .inl (fun _ => 0))), (q2, .inl (c2, 512, .inl (fun _ => 0))), (q3, .inl (c3, 64, .inl (fun _ => 0)))] := hD
  refine lv_aload_n hx hb dX4_init_37 rfl (lv_at hl 0 rfl) ?_
  refine lv_bipush (v := 64) hx hb dX4_init_38 (by decide) ?_
  refine va_newa (atype := .int) (ty := .int) (n := 64) (N' := 64) (a0 := (64, .inl (fun _ => 0))) hx hb k_3 rfl hK hP hD hS hA (fun _ => rfl) (by decide) (by decide) (by decide) (Nat.le_of_ble_eq_true rfl) (Nat.le_of_ble_eq_true rfl) dX4_init_40 (fun q4 c4 H hK hP hD hS => ?_)
  have hP : va_P D vwCl [(h0, .inr (4, [.int 0, .int 0, .ref q0, .ref q1, .ref q2, .ref q3, .null, .null, .null, .null, .null, .null])), (q0, .inl (c0, 64, .inl (fun _ => 0))), (q1, .inl (c1, 64, .inl (fun _ => 0))), (q2, .inl (c2, 512, .inl (fun _ => 0))), (q3, .inl (c3, 64, .inl (fun _ => 0))), (q4, .inl (c4, 64, .inl (fun _ => 0)))] H := hP
  have hD : va_D A [(h0, .inr (4, [.int 0, .int 0, .ref q0, .ref q1, .ref q2, .ref q3, .null, .null, .null, .null, .null, .null])), (q0, .inl (c0, 64, .inl (fun _ => 0))), (q1, .inl (c1, 64, .inl (fun _ => 0))), (q2, .inl (c2, 512, .inl (fun _ => 0))), (q3, .inl (c3, 64, .inl (fun _ => 0))), (q4, .inl (c4, 64, .inl (fun _ => 0)))] := hD
  have hK : va_K D vwCl [(c0, .int), (c1, .int), (c2, .int), (c3, .int), (c4, .int)] s := hK
  refine W.widen (k := 5) (n := 768) (by omega) (by omega) ?_
  refine va_putF (D := D) (ci := 4) (v := .ref q4) (ty := .array .int) (C := RX4) (T := TX4) (N := 12) hx hb hts in_X4 tyX4 tyX4_ok nmX4 hown hK hP hD hS 0 rfl rfl 6 (by decide) k_8 (fun _ h9 => h9) rfl hin rfl (by decide +kernel) rfl rfl (Nat.le_of_ble_eq_true rfl) dX4_init_42 (fun H locs hP hD hS => ?_)
  have hP : va_P D vwCl [(h0, .inr (4, [.int 0, .int 0, .ref q0, .ref q1, .ref q2, .ref q3, .ref q4, .null, .null, .null, .null, .null])), (q0, .inl (c0, 64, .inl (fun _ => 0))), (q1, .inl (c1, 64, .inl (fun _ => 0))), (q2, .inl (c2, 512, .inl (fun _ => 0))), (q3, .inl (c3, 64, .inl (fun _ => 0))), (q4, .inl (c4, 64, .inl (fun _ => 0)))] H := hP
  have hD : va_D A [(h0, .inr (4, [.int 0, .int 0, .ref q0, .ref q1, .ref q2, .ref q3, .ref q4, .null, .null, .null, .null, .null])), (q0, .inl (c0, 64, .inl (fun _ => 0))), (q1, .inl (c1, 64, .inl (fun _ => 0))), (q2, .inl (c2, 512, .inl (fun _ => 0))), (q3, .inl (c3, 64, .inl (fun _ => 0))), (q4, .inl (c4, 64, .inl (fun _ => 0)))] := hD
  refine lv_aload_n hx hb dX4_init_45 rfl (lv_at hl 0 rfl) ?_
  refine lv_bipush (v := 64) hx hb dX4_init_46 (by decide) ?_
  refine va_newa (atype := .int) (ty := .int) (n := 64) (N' := 64) (a0 := (64, .inl (fun _ => 0))) hx hb k_3 rfl hK hP hD hS hA (fun _ => rfl) (by decide) (by decide) (by decide) (Nat.le_of_ble_eq_true rfl) (Nat.le_of_ble_eq_true rfl) dX4_init_48 (fun q5 c5 H hK hP hD hS => ?_)
  have hP : va_P D vwCl [(h0, .inr (4, [.int 0, .int 0, .ref q0, .ref q1, .ref q2, .ref q3, .ref q4, .null, .null, .null, .null, .null])), (q0, .inl (c0, 64, .inl (fun _ => 0))), (q1, .inl (c1, 64, .inl (fun _ => 0))), (q2, .inl (c2, 512, .inl (fun _ => 0))), (q3, .inl (c3, 64, .inl (fun _ => 0))), (q4, .inl (c4, 64, .inl (fun _ => 0))), (q5, .inl (c5, 64, .inl (fun _ => 0)))] H := hP
  have hD : va_D A [(h0, .inr (4, [.int 0, .int 0, .ref q0, .ref q1, .ref q2, .ref q3, .ref q4, .null, .null, .null, .null, .null])), (q0, .inl (c0, 64, .inl (fun _ => 0))), (q1, .inl (c1, 64, .inl (fun _ => 0))), (q2, .inl (c2, 512, .inl (fun _ => 0))), (q3, .inl (c3, 64, .inl (fun _ => 0))), (q4, .inl (c4, 64, .inl (fun _ => 0))), (q5, .inl (c5, 64, .inl (fun _ => 0)))] := hD
  have hK : va_K D vwCl [(c0, .int), (c1, .int), (c2, .int), (c3, .int), (c4, .int), (c5, .int)] s := hK
  refine W.widen (k := 6) (n := 832) (by omega) (by omega) ?_
  refine va_putF (D := D) (ci := 4) (v := .ref q5) (ty := .array .int) (C := RX4) (T := TX4) (N := 12) hx hb hts in_X4 tyX4 tyX4_ok nmX4 hown hK hP hD hS 0 rfl rfl 7 (by decide) k_9 (fun _ h9 => h9) rfl hin rfl (by decide +kernel) rfl rfl (Nat.le_of_ble_eq_true rfl) dX4_init_50 (fun H locs hP hD hS => ?_)
  have hP : va_P D vwCl [(h0, .inr (4, [.int 0, .int 0, .ref q0, .ref q1, .ref q2, .ref q3, .ref q4, .ref q5, .null, .null, .null, .null])), (q0, .inl (c0, 64, .inl (fun _ => 0))), (q1, .inl (c1, 64, .inl (fun _ => 0))), (q2, .inl (c2, 512, .inl (fun _ => 0))), (q3, .inl (c3, 64, .inl (fun _ => 0))), (q4, .inl (c4, 64, .inl (fun _ => 0))), (q5, .inl (c5, 64, .inl (fun _ => 0)))] H := hP
  have hD : va_D A [(h0, .inr (4, [.int 0, .int 0, .ref q0, .ref q1, .ref q2, .ref q3, .ref q4, .ref q5, .null, .null, .null, .null])), (q0, .inl (c0, 64, .inl (fun _ => 0))), (q1, .inl (c1, 64, .inl (fun _ => 0))), (q2, .inl (c2, 512, .inl (fun _ => 0))), (q3, .inl (c3, 64, .inl (fun _ => 0))), (q4, .inl (c4, 64, .inl (fun _ => 0))), (q5, .inl (c5, 64, .inl (fun _ => 0)))] := hD
  refine lv_aload_n hx hb dX4_init_53 rfl (lv_at hl 0 rfl) ?_
  refine lv_bipush (v := 64) hx hb dX4_init_54 (by decide) ?_
  refine va_newa (atype := .int) (ty := .int) (n := 64) (N' := 64) (a0 := (64, .inl (fun _ => 0))) hx hb k_3 rfl hK hP hD hS hA (fun _ => rfl) (by decide) (by decide) (by decide) (Nat.le_of_ble_eq_true rfl) (Nat.le_of_ble_eq_true rfl) dX4_init_56 (fun q6 c6 H hK hP hD hS => ?_)
  have hP : va_P D vwCl [(h0, .inr (4, [.int 0, .int 0, .ref q0, .ref q1, .ref q2, .ref q3, .ref q4, .ref q5, .null, .null, .null, .null])), (q0, .inl (c0, 64, .inl (fun _ => 0))), (q1, .inl (c1, 64, .inl (fun _ => 0))), (q2, .inl (c2, 512, .inl (fun _ => 0))), (q3, .inl (c3, 64, .inl (fun _ => 0))), (q4, .inl (c4, 64, .inl (fun _ => 0))), (q5, .inl (c5, 64, .inl (fun _ => 0))), (q6, .inl (c6, 64, .inl (fun _ => 0)))] H := hP
  have hD : va_D A [(h0, .inr (4, [.int 0, .int 0, .ref q0, .ref q1, .ref q2, .ref q3, .ref q4, .ref q5, .null, .null, .null, .null])), (q0, .inl (c0, 64, .inl (fun _ => 0))), (q1, .inl (c1, 64, .inl (fun _ => 0))), (q2, .inl (c2, 512, .inl (fun _ => 0))), (q3, .inl (c3, 64, .inl (fun _ => 0))), (q4, .inl (c4, 64, .inl (fun _ => 0))), (q5, .inl (c5, 64, .inl (fun _ => 0))), (q6, .inl (c6, 64, .inl (fun _ => 0)))] := hD
  have hK : va_K D vwCl [(c0, .int), (c1, .int), (c2, .int), (c3, .int), (c4, .int), (c5, .int), (c6, .int)] s := hK
  refine W.widen (k := 7) (n := 896) (by omega) (by omega) ?_
  refine va_putF (D := D) (ci := 4) (v := .ref q6) (ty := .array .int) (C := RX4) (T := TX4) (N := 12) hx hb hts in_X4 tyX4 tyX4_ok nmX4 hown hK hP hD hS 0 rfl rfl 8 (by decide) k_10 (fun _ h9 => h9) rfl hin rfl (by decide +kernel) rfl rfl (Nat.le_of_ble_eq_true rfl) dX4_init_58 (fun H locs hP hD hS => ?_)
  have hP : va_P D vwCl [(h0, .inr (4, [.int 0, .int 0, .ref q0, .ref q1, .ref q2, .ref q3, .ref q4, .ref q5, .ref q6, .null, .null, .null])), (q0, .inl (c0, 64, .inl (fun _ => 0))), (q1, .inl (c1, 64, .inl (fun _ => 0))), (q2, .inl (c2, 512, .inl (fun _ => 0))), (q3, .inl (c3, 64, .inl (fun _ => 0))), (q4, .inl (c4, 64, .inl (fun _ => 0))), (q5, .inl (c5, 64, .inl (fun _ => 0))), (q6, .inl (c6, 64, .inl (fun _ => 0)))] H := hP
  have hD : va_D A [(h0, .inr (4, [.int 0, .int 0, .ref q0, .ref q1, .ref q2, .ref q3, .ref q4, .ref q5, .ref q6, .null, .null, .null])), (q0, .inl (c0, 64, .inl (fun _ => 0))), (q1, .inl (c1, 64, .inl (fun _ => 0))), (q2, .inl (c2, 512, .inl (fun _ => 0))), (q3, .inl (c3, 64, .inl (fun _ => 0))), (q4, .inl (c4, 64, .inl (fun _ => 0))), (q5, .inl (c5, 64, .inl (fun _ => 0))), (q6, .inl (c6, 64, .inl (fun _ => 0)))] := hD
  refine lv_aload_n hx hb dX4_init_61 rfl (lv_at hl 0 rfl) ?_
  refine lv_bipush (v := 64) hx hb dX4_init_62 (by decide) ?_
  refine va_newa (atype := .int) (ty := .int) (n := 64) (N' := 64) (a0 := (64, .inl (fun _ => 0))) hx hb k_3 rfl hK hP hD hS hA (fun _ => rfl) (by decide) (by decide) (by decide) (Nat.le_of_ble_eq_true rfl) (Nat.le_of_ble_eq_true rfl) dX4_init_64 (fun q7 c7 H hK hP hD hS => ?_)
  have hP : va_P D vwCl [(h0, .inr (4, [.int 0, .int 0, .ref q0, .ref q1, .ref q2, .ref q3, .ref q4, .ref q5, .ref q6, .null, .null, .null])), (q0, .inl (c0, 64, .inl (fun _ => 0))), (q1, .inl (c1, 64, .inl (fun _ => 0))), (q2, .inl (c2, 512, .inl (fun _ => 0))), (q3, .inl (c3, 64, .inl (fun _ => 0))), (q4, .inl (c4, 64, .inl (fun _ => 0))), (q5, .inl (c5, 64, .inl (fun _ => 0))), (q6, .inl (c6, 64, .inl (fun _ => 0))), (q7, .inl (c7, 64, .inl (fun _ => 0)))] H := hP
  have hD : va_D A [(h0, .inr (4, [.int 0, .int 0, .ref q0, .ref q1, .ref q2, .ref q3, .ref q4, .ref q5, .ref q6, .null, .null, .null])), (q0, .inl (c0, 64, .inl (fun _ => 0))), (q1, .inl (c1, 64, .inl (fun _ => 0))), (q2, .inl (c2, 512, .inl (fun _ => 0))), (q3, .inl (c3, 64, .inl (fun _ => 0))), (q4, .inl (c4, 64, .inl (fun _ => 0))), (q5, .inl (c5, 64, .inl (fun _ => 0))), (q6, .inl (c6, 64, .inl (fun _ => 0))), (q7, .inl (c7, 64, .inl (fun _ => 0)))] := hD
  have hK : va_K D vwCl [(c0, .int), (c1, .int), (c2, .int), (c3, .int), (c4, .int), (c5, .int), (c6, .int), (c7, .int)] s := hK
  refine W.widen (k := 8) (n := 960) (by omega) (by omega) ?_
  refine va_putF (D := D) (ci := 4) (v := .ref q7) (ty := .array .int) (C := RX4) (T := TX4) (N := 12) hx hb hts in_X4 tyX4 tyX4_ok nmX4 hown hK hP hD hS 0 rfl rfl 9 (by decide) k_11 (fun _ h9 => h9) rfl hin rfl (by decide +kernel) rfl rfl (Nat.le_of_ble_eq_true rfl) dX4_init_66 (fun H locs hP hD hS => ?_)
  have hP : va_P D vwCl [(h0, .inr (4, [.int 0, .int 0, .ref q0, .ref q1, .ref q2, .ref q3, .ref q4, .ref q5, .ref q6, .ref q7, .null, .null])), (q0, .inl (c0, 64, .inl (fun _ => 0))), (q1, .inl (c1, 64, .inl (fun _ => 0))), (q2, .inl (c2, 512, .inl (fun _ => 0))), (q3, .inl (c3, 64, .inl (fun _ => 0))), (q4, .inl (c4, 64, .inl (fun _ => 0))), (q5, .inl (c5, 64, .inl (fun _ => 0))), (q6, .inl (c6, 64, .inl (fun _ => 0))), (q7, .inl (c7, 64, .inl (fun _ => 0)))] H := hP
  have hD : va_D A [(h0, .inr (4, [.int 0, .int 0, .ref q0, .ref q1, .ref q2, .ref q3, .ref q4, .ref q5, .ref q6, .ref q7, .null, .null])), (q0, .inl (c0, 64, .inl (fun _ => 0))), (q1, .inl (c1, 64, .inl (fun _ => 0))), (q2, .inl (c2, 512, .inl (fun _ => 0))), (q3, .inl (c3, 64, .inl (fun _ => 0))), (q4, .inl (c4, 64, .inl (fun _ => 0))), (q5, .inl (c5, 64, .inl (fun _ => 0))), (q6, .inl (c6, 64, .inl (fun _ => 0))), (q7, .inl (c7, 64, .inl (fun _ => 0)))] := hD
  refine lv_aload_n hx hb dX4_init_69 rfl (lv_at hl 0 rfl) ?_
  refine lv_bipush (v := 64) hx hb dX4_init_70 (by decide) ?_
  refine va_newa (atype := .int) (ty := .int) (n := 64) (N' := 64) (a0 := (64, .inl (fun _ => 0))) hx hb k_3 rfl hK hP hD hS hA (fun _ => rfl) (by decide) (by decide) (by decide) (Nat.le_of_ble_eq_true rfl) (Nat.le_of_ble_eq_true rfl) dX4_init_72 (fun q8 c8 H hK hP hD hS => ?_)
  have hP : va_P D vwCl [(h0, .inr (4, [.int 0, .int 0, .ref q0, .ref q1, .ref q2, .ref q3, .ref q4, .ref q5, .ref q6, .ref q7, .null, .null])), (q0, .inl (c0, 64, .inl (fun _ => 0))), (q1, .inl (c1, 64, .inl (fun _ => 0))), (q2, .inl (c2, 512, .inl (fun _ => 0))), (q3, .inl (c3, 64, .inl (fun _ => 0))), (q4, .inl (c4, 64, .inl (fun _ => 0))), (q5, .inl (c5, 64, .inl (fun _ => 0))), (q6, .inl (c6, 64, .inl (fun _ => 0))), (q7, .inl (c7, 64, .inl (fun _ => 0))), (q8, .inl (c8, 64, .inl (fun _ => 0)))] H := hP
  have hD : va_D A [(h0, .inr (4, [.int 0, .int 0, .ref q0, .ref q1, .ref q2, .ref q3, .ref q4, .ref q5, .ref q6, .ref q7, .null, .null])), (q0, .inl (c0, 64, .inl (fun _ => 0))), (q1, .inl (c1, 64, .inl (fun _ => 0))), (q2, .inl (c2, 512, .inl (fun _ => 0))), (q3, .inl (c3, 64, .inl (fun _ => 0))), (q4, .inl (c4, 64, .inl (fun _ => 0))), (q5, .inl (c5, 64, .inl (fun _ => 0))), (q6, .inl (c6, 64, .inl (fun _ => 0))), (q7, .inl (c7, 64, .inl (fun _ => 0))), (q8, .inl (c8, 64, .inl (fun _ => 0)))] := hD
  have hK : va_K D vwCl [(c0, .int), (c1, .int), (c2, .int), (c3, .int), (c4, .int), (c5, .int), (c6, .int), (c7, .int), (c8, .int)] s := hK
  refine W.widen (k := 9) (n := 1024) (by omega) (by omega) ?_
  refine va_putF (D := D) (ci := 4) (v := .ref q8) (ty := .array .int) (C := RX4) (T := TX4) (N := 12) hx hb hts in_X4 tyX4 tyX4_ok nmX4 hown hK hP hD hS 0 rfl rfl 10 (by decide) k_12 (fun _ h9 => h9) rfl hin rfl (by decide +kernel) rfl rfl (Nat.le_of_ble_eq_true rfl) dX4_init_74 (fun H locs hP hD hS => ?_)
  have hP : va_P D vwCl [(h0, .inr (4, [.int 0, .int 0, .ref q0, .ref q1, .ref q2, .ref q3, .ref q4, .ref q5, .ref q6, .ref q7, .ref q8, .null])), (q0, .inl (c0, 64, .inl (fun _ => 0))), (q1, .inl (c1, 64, .inl (fun _ => 0))), (q2, .inl (c2, 512, .inl (fun _ => 0))), (q3, .inl (c3, 64, .inl (fun _ => 0))), (q4, .inl (c4, 64, .inl (fun _ => 0))), (q5, .inl (c5, 64, .inl (fun _ => 0))), (q6, .inl (c6, 64, .inl (fun _ => 0))), (q7, .inl (c7, 64, .inl (fun _ => 0))), (q8, .inl (c8, 64, .inl (fun _ => 0)))] H := hP
  have hD : va_D A [(h0, .inr (4, [.int 0, .int 0, .ref q0, .ref q1, .ref q2, .ref q3, .ref q4, .ref q5, .ref q6, .ref q7, .ref q8, .null])), (q0, .inl (c0, 64, .inl (fun _ => 0))), (q1, .inl (c1, 64, .inl (fun _ => 0))), (q2, .inl (c2, 512, .inl (fun _ => 0))), (q3, .inl (c3, 64, .inl (fun _ => 0))), (q4, .inl (c4, 64, .inl (fun _ => 0))), (q5, .inl (c5, 64, .inl (fun _ => 0))), (q6, .inl (c6, 64, .inl (fun _ => 0))), (q7, .inl (c7, 64, .inl (fun _ => 0))), (q8, .inl (c8, 64, .inl (fun _ => 0)))] := hD
  refine lv_aload_n hx hb dX4_init_77 rfl (lv_at hl 0 rfl) ?_
  refine lv_bipush (v := 64) hx hb dX4_init_78 (by decide) ?_
  refine va_newa (atype := .int) (ty := .int) (n := 64) (N' := 64) (a0 := (64, .inl (fun _ => 0))) hx hb k_3 rfl hK hP hD hS hA (fun _ => rfl) (by decide) (by decide) (by decide) (Nat.le_of_ble_eq_true rfl) (Nat.le_of_ble_eq_true rfl) dX4_init_80 (fun q9 c9 H hK hP hD hS => ?_)
  have hP : va_P D vwCl [(h0, .inr (4, [.int 0, .int 0, .ref q0, .ref q1, .ref q2, .ref q3, .ref q4, .ref q5, .ref q6, .ref q7, .ref q8, .null])), (q0, .inl (c0, 64, .inl (fun _ => 0))), (q1, .inl (c1, 64, .inl (fun _ => 0))), (q2, .inl (c2, 512, .inl (fun _ => 0))), (q3, .inl (c3, 64, .inl (fun _ => 0))), (q4, .inl (c4, 64, .inl (fun _ => 0))), (q5, .inl (c5, 64, .inl (fun _ => 0))), (q6, .inl (c6, 64, .inl (fun _ => 0))), (q7, .inl (c7, 64, .inl (fun _ => 0))), (q8, .inl (c8, 64, .inl (fun _ => 0))), (q9, .inl (c9, 64, .inl (fun _ => 0)))] H := hP
  have hD : va_D A [(h0, .inr (4, [.int 0, .int 0, .ref q0, .ref q1, .ref q2, .ref q3, .ref q4, .ref q5, .ref q6, .ref q7, .ref q8, .null])), (q0, .inl (c0, 64, .inl (fun _ => 0))), (q1, .inl (c1, 64, .inl (fun _ => 0))), (q2, .inl (c2, 512, .inl (fun _ => 0))), (q3, .inl (c3, 64, .inl (fun _ => 0))), (q4, .inl (c4, 64, .inl (fun _ => 0))), (q5, .inl (c5, 64, .inl (fun _ => 0))), (q6, .inl (c6, 64, .inl (fun _ => 0))), (q7, .inl (c7, 64, .inl (fun _ => 0))), (q8, .inl (c8, 64, .inl (fun _ => 0))), (q9, .inl (c9, 64, .inl (fun _ => 0)))] := hD
  have hK : va_K D vwCl [(c0, .int), (c1, .int), (c2, .int), (c3, .int), (c4, .int), (c5, .int), (c6, .int), (c7, .int), (c8, .int), (c9, .int)] s := hK
  refine W.widen (k := 10) (n := 1088) (by omega) (by omega) ?_
  refine va_putF (D := D) (ci := 4) (v := .ref q9) (ty := .array .int) (C := RX4) (T := TX4) (N := 12) hx hb hts in_X4 tyX4 tyX4_ok nmX4 hown hK hP hD hS 0 rfl rfl 11 (by decide) k_13 (fun _ h9 => h9) rfl hin rfl (by decide +kernel) rfl rfl (Nat.le_of_ble_eq_true rfl) dX4_init_82 (fun H locs hP hD hS => ?_)
  have hP : va_P D vwCl [(h0, .inr (4, [.int 0, .int 0, .ref q0, .ref q1, .ref q2, .ref q3, .ref q4, .ref q5, .ref q6, .ref q7, .ref q8, .ref q9])), (q0, .inl (c0, 64, .inl (fun _ => 0))), (q1, .inl (c1, 64, .inl (fun _ => 0))), (q2, .inl (c2, 512, .inl (fun _ => 0))), (q3, .inl (c3, 64, .inl (fun _ => 0))), (q4, .inl (c4, 64, .inl (fun _ => 0))), (q5, .inl (c5, 64, .inl (fun _ => 0))), (q6, .inl (c6, 64, .inl (fun _ => 0))), (q7, .inl (c7, 64, .inl (fun _ => 0))), (q8, .inl (c8, 64, .inl (fun _ => 0))), (q9, .inl (c9, 64, .inl (fun _ => 0)))] H := hP
  have hD : va_D A [(h0, .inr (4, [.int 0, .int 0, .ref q0, .ref q1, .ref q2, .ref q3, .ref q4, .ref q5, .ref q6, .ref q7, .ref q8, .ref q9])), (q0, .inl (c0, 64, .inl (fun _ => 0))), (q1, .inl (c1, 64, .inl (fun _ => 0))), (q2, .inl (c2, 512, .inl (fun _ => 0))), (q3, .inl (c3, 64, .inl (fun _ => 0))), (q4, .inl (c4, 64, .inl (fun _ => 0))), (q5, .inl (c5, 64, .inl (fun _ => 0))), (q6, .inl (c6, 64, .inl (fun _ => 0))), (q7, .inl (c7, 64, .inl (fun _ => 0))), (q8, .inl (c8, 64, .inl (fun _ => 0))), (q9, .inl (c9, 64, .inl (fun _ => 0)))] := hD
  have hP9 := hP.sub (ws' := [(h0, .inr (4, [.int 0, .int 0, .ref q0, .ref q1, .ref q2, .ref q3, .ref q4, .ref q5, .ref q6, .ref q7, .ref q8, .ref q9])), (q0, .inl (c0, 64, .inl (fun _ => 0))), (q1, .inl (c1, 64, .inl (fun _ => 0))), (q2, .inl (c2, 512, .inl (fun _ => 0))), (q3, .inl (c3, 64, .inl (fun _ => 0))), (q4, .inl (c4, 64, .inl (fun _ => 0))), (q5, .inl (c5, 64, .inl (fun _ => 0))), (q6, .inl (c6, 64, .inl (fun _ => 0))), (q7, .inl (c7, 64, .inl (fun _ => 0))), (q8, .inl (c8, 64, .inl (fun _ => 0))), (q9, .inl (c9, 64, .inl (fun _ => 0)))]) [0, 1, 2, 3, 4, 5, 6, 7, 8, 9, 10] rfl
  have hD9 := hD.sub (ws' := [(h0, .inr (4, [.int 0, .int 0, .ref q0, .ref q1, .ref q2, .ref q3, .ref q4, .ref q5, .ref q6, .ref q7, .ref q8, .ref q9])), (q0, .inl (c0, 64, .inl (fun _ => 0))), (q1, .inl (c1, 64, .inl (fun _ => 0))), (q2, .inl (c2, 512, .inl (fun _ => 0))), (q3, .inl (c3, 64, .inl (fun _ => 0))), (q4, .inl (c4, 64, .inl (fun _ => 0))), (q5, .inl (c5, 64, .inl (fun _ => 0))), (q6, .inl (c6, 64, .inl (fun _ => 0))), (q7, .inl (c7, 64, .inl (fun _ => 0))), (q8, .inl (c8, 64, .inl (fun _ => 0))), (q9, .inl (c9, 64, .inl (fun _ => 0)))]) [0, 1, 2, 3, 4, 5, 6, 7, 8, 9, 10] (by decide) rfl
  have hK9 := hK.sub (tys' := [(c0, .int), (c1, .int), (c2, .int), (c3, .int), (c4, .int), (c5, .int), (c6, .int), (c7, .int), (c8, .int), (c9, .int)]) [0, 1, 2, 3, 4, 5, 6, 7, 8, 9] rfl
  exact W.vret hx hb hr (fun t ht hW => ⟨⟨((fun j => if j = 0 then q0 else if j = 1 then q1 else if j = 2 then q2 else if j = 3 then q3 else if j = 4 then q4 else if j = 5 then q5 else if j = 6 then q6 else if j = 7 then q7 else if j = 8 then q8 else if j = 9 then q9 else 0), (fun j => if j = 0 then c0 else if j = 1 then c1 else if j = 2 then c2 else if j = 3 then c3 else if j = 4 then c4 else if j = 5 then c5 else if j = 6 then c6 else if j = 7 then c7 else if j = 8 then c8 else if j = 9 then c9 else c0)), rfl, trivial, by rw [ht]; exact hP9, va_K.moved hW.alike hK9, hD9⟩, hS.F ht⟩) hS.2.2 dX4_init_85

theorem dX5_init_0 : decode cX5_init 0 = .ok (.aload_n 0, 1) := by decide +kernel
theorem dX5_init_1 : decode cX5_init 1 = .ok (.invokespecial 3, 3) := by decide +kernel
theorem dX5_init_4 : decode cX5_init 4 = .ok (.aload_n 0, 1) := by decide +kernel
theorem dX5_init_5 : decode cX5_init 5 = .ok (.sipush 1000, 3) := by decide +kernel
theorem dX5_init_8 : decode cX5_init 8 = .ok (.newarray .int, 2) := by decide +kernel
theorem dX5_init_10 : decode cX5_init 10 = .ok (.putfield 9, 3) := by decide +kernel
theorem dX5_init_13 : decode cX5_init 13 = .ok (.aload_n 0, 1) := by decide +kernel
theorem dX5_init_14 : decode cX5_init 14 = .ok (.sipush 1000, 3) := by decide +kernel
theorem dX5_init_17 : decode cX5_init 17 = .ok (.newarray .int, 2) := by decide +kernel
theorem dX5_init_19 : decode cX5_init 19 = .ok (.putfield 15, 3) := by decide +kernel
theorem dX5_init_22 : decode cX5_init 22 = .ok (.return_, 1) := by decide +kernel
set_option maxHeartbeats 4000000 in
set_option maxRecDepth 100000 in
theorem c_X5_init (l : Launch) (D : va_G) (h0 : Nat) (sz : Nat) : Met l yX5_init wsX5_init { frames := 1, cells := 2, slots := 2000, locals := 12 } (va_Pc [.ref h0] (fun U => U.heap.size = sz ∧ va_P D vwCl [(h0, .inr (5, [.null, .int 0, .int 0, .null, .long 0]))] U.heap ∧ va_K D vwCl [] U ∧ va_D (fun _ => True) [(h0, .inr (5, [.null, .int 0, .int 0, .null, .long 0]))] ∧ ∀ w ∈ sm_nest, va_Nw w U)) (va_Qv (fun _ : sm_A => True) (fun u t => va_P D vwCl [(h0, .inr (5, [.ref (u.1 0), .int 0, .int 0, .ref (u.1 1), .long 0])), (u.1 0, .inl (u.2 0, 1000, .inl (fun _ => 0))), (u.1 1, .inl (u.2 1, 1000, .inl (fun _ => 0)))] t.heap ∧ va_K D vwCl [(u.2 0, .int), (u.2 1, .int)] t ∧ va_D (va_A [(h0, .inr (5, [.null, .int 0, .int 0, .null, .long 0]))] sz) [(h0, .inr (5, [.ref (u.1 0), .int 0, .int 0, .ref (u.1 1), .long 0])), (u.1 0, .inl (u.2 0, 1000, .inl (fun _ => 0))), (u.1 1, .inl (u.2 1, 1000, .inl (fun _ => 0)))]) (va_A [(h0, .inr (5, [.null, .int 0, .int 0, .null, .long 0]))] sz)) 2 2000 (va_A [(h0, .inr (5, [.null, .int 0, .int 0, .null, .long 0]))] sz) := by
  refine Met.ofW (cc := cX5_init) (maxL := 1) (ret := none) (by decide) rfl ?_
  intro p e s m args below meth c s₁ B hml hv
  obtain ⟨rfl, hsz, hP, hK, hD0, hN⟩ := hv
  have hx := B.exec
  have hb := B.bytes
  have hr := B.returns
  have hts := atoms_spec (ws := wsX5_init) B.pre
  have hown : s.vm.findClass RX5 = some m.cls := findClass_of_methodNamed B.named
  have hlocks := B.notSynchronized
  have hin : meth.name = "<init>" := (name_of_methodNamed B.named B.method).1
  subst hsz
  have hD := hD0.self (sz := s.heap.size)
  generalize hAe : va_A [(h0, .inr (5, [.null, .int 0, .int 0, .null, .long 0]))] s.heap.size = A at hD ⊢
  have hA : ∀ q : Nat, s.heap.size ≤ q → A q := fun q h => by rw [← hAe]; exact Or.inr h
  have hS : va_S A s.heap s.heap [] := va_S.rf
  have in_X5 : ∀ w ∈ wsX50, w ∈ wsX5_init := by decide +kernel
  have k_0 := hts (.methodLink RX5 3 objectInit) (by decide +kernel)
  have k_1 := hts (.instanceMethod objectInit) (by decide +kernel)
  have k_2 := hts (.code objectInit ⟨#[0xb1]⟩ 1 none) (by decide +kernel)
  have k_3 := hts (.arrayClass .int) (by decide +kernel)
  have k_4 := hts (.fieldLink RX5 9 "SteadyMachine$Ports" "ins" "[I") (by decide +kernel)
  have k_5 := hts (.fieldLink RX5 15 "SteadyMachine$Ports" "outs" "[I") (by decide +kernel)
  have hl := lv_entry ([.ref h0]) (n := 1) (Nat.le_of_ble_eq_true rfl)
  rw [lg_entry_eq]
  generalize (lg_sl ([.ref h0]) ++ List.replicate (1 - (lg_sl ([.ref h0])).length) Slot.unset).toArray = ls at hl ⊢
  have hl : lv_has ls 1 [(0, .ref h0)] := hl
  refine lv_aload_n hx hb dX5_init_0 rfl (lv_at hl 0 rfl) ?_
  refine W.objInit hx hb hown k_0 k_1 k_2 rfl (by rw [hml]; exact hl.1) rfl dX5_init_1 (Nat.le_of_ble_eq_true rfl) (Nat.le_of_ble_eq_true rfl) ?_
  refine W.eq (g2 := F0 m 4 ls []) rfl ?_
  refine lv_aload_n hx hb dX5_init_4 rfl (lv_at hl 0 rfl) ?_
  refine lv_sipush (v := 1000) hx hb dX5_init_5 (by decide) ?_
  refine va_newa (atype := .int) (ty := .int) (n := 1000) (N' := 1000) (a0 := (1000, .inl (fun _ => 0))) hx hb k_3 rfl hK hP hD hS hA (fun _ => rfl) (by decide) (by decide) (by decide) (Nat.le_of_ble_eq_true rfl) (Nat.le_of_ble_eq_true rfl) dX5_init_8 (fun q0 c0 H hK hP hD hS => ?_)
  have hP : va_P D vwCl [(h0, .inr (5, [.null, .int 0, .int 0, .null, .long 0])), (q0, .inl (c0, 1000, .inl (fun _ => 0)))] H := hP
  have hD : va_D A [(h0, .inr (5, [.null, .int 0, .int 0, .null, .long 0])), (q0, .inl (c0, 1000, .inl (fun _ => 0)))] := hD
  have hK : va_K D vwCl [(c0, .int)] s := hK
  refine W.widen (k := 1) (n := 1000) (by omega) (by omega) ?_
  refine va_putF (D := D) (ci := 5) (v := .ref q0) (ty := .array .int) (C := RX5) (T := TX5) (N := 5) hx hb hts in_X5 tyX5 tyX5_ok nmX5 hown hK hP hD hS 0 rfl rfl 0 (by decide) k_4 (fun _ h9 => h9) rfl hin rfl (by decide +kernel) rfl rfl (Nat.le_of_ble_eq_true rfl) dX5_init_10 (fun H locs hP hD hS => ?_)
  have hP : va_P D vwCl [(h0, .inr (5, [.ref q0, .int 0, .int 0, .null, .long 0])), (q0, .inl (c0, 1000, .inl (fun _ => 0)))] H := hP
  have hD : va_D A [(h0, .inr (5, [.ref q0, .int 0, .int 0, .null, .long 0])), (q0, .inl (c0, 1000, .inl (fun _ => 0)))] := hD
  refine lv_aload_n hx hb dX5_init_13 rfl (lv_at hl 0 rfl) ?_
  refine lv_sipush (v := 1000) hx hb dX5_init_14 (by decide) ?_
  refine va_newa (atype := .int) (ty := .int) (n := 1000) (N' := 1000) (a0 := (1000, .inl (fun _ => 0))) hx hb k_3 rfl hK hP hD hS hA (fun _ => rfl) (by decide) (by decide) (by decide) (Nat.le_of_ble_eq_true rfl) (Nat.le_of_ble_eq_true rfl) dX5_init_17 (fun q1 c1 H hK hP hD hS => ?_)
  have hP : va_P D vwCl [(h0, .inr (5, [.ref q0, .int 0, .int 0, .null, .long 0])), (q0, .inl (c0, 1000, .inl (fun _ => 0))), (q1, .inl (c1, 1000, .inl (fun _ => 0)))] H := hP
  have hD : va_D A [(h0, .inr (5, [.ref q0, .int 0, .int 0, .null, .long 0])), (q0, .inl (c0, 1000, .inl (fun _ => 0))), (q1, .inl (c1, 1000, .inl (fun _ => 0)))] := hD
  have hK : va_K D vwCl [(c0, .int), (c1, .int)] s := hK
  refine W.widen (k := 2) (n := 2000) (by omega) (by omega) ?_
  refine va_putF (D := D) (ci := 5) (v := .ref q1) (ty := .array .int) (C := RX5) (T := TX5) (N := 5) hx hb hts in_X5 tyX5 tyX5_ok nmX5 hown hK hP hD hS 0 rfl rfl 3 (by decide) k_5 (fun _ h9 => h9) rfl hin rfl (by decide +kernel) rfl rfl (Nat.le_of_ble_eq_true rfl) dX5_init_19 (fun H locs hP hD hS => ?_)
  have hP : va_P D vwCl [(h0, .inr (5, [.ref q0, .int 0, .int 0, .ref q1, .long 0])), (q0, .inl (c0, 1000, .inl (fun _ => 0))), (q1, .inl (c1, 1000, .inl (fun _ => 0)))] H := hP
  have hD : va_D A [(h0, .inr (5, [.ref q0, .int 0, .int 0, .ref q1, .long 0])), (q0, .inl (c0, 1000, .inl (fun _ => 0))), (q1, .inl (c1, 1000, .inl (fun _ => 0)))] := hD
  have hP9 := hP.sub (ws' := [(h0, .inr (5, [.ref q0, .int 0, .int 0, .ref q1, .long 0])), (q0, .inl (c0, 1000, .inl (fun _ => 0))), (q1, .inl (c1, 1000, .inl (fun _ => 0)))]) [0, 1, 2] rfl
  have hD9 := hD.sub (ws' := [(h0, .inr (5, [.ref q0, .int 0, .int 0, .ref q1, .long 0])), (q0, .inl (c0, 1000, .inl (fun _ => 0))), (q1, .inl (c1, 1000, .inl (fun _ => 0)))]) [0, 1, 2] (by decide) rfl
  have hK9 := hK.sub (tys' := [(c0, .int), (c1, .int)]) [0, 1] rfl
  exact W.vret hx hb hr (fun t ht hW => ⟨⟨((fun j => if j = 0 then q0 else if j = 1 then q1 else 0), (fun j => if j = 0 then c0 else if j = 1 then c1 else c0)), rfl, trivial, by rw [ht]; exact hP9, va_K.moved hW.alike hK9, hD9⟩, hS.F ht⟩) hS.2.2 dX5_init_22

set_option maxRecDepth 20000 in
theorem ggX2_init_X0_init : GoodIn wsX2_init wsX0_init := goodIn_r _ [17, 18, 2, 3, 19, 20, 21, 22, 23, 24, 25, 39, 40, 41, 42, 43, 44, 45] (by decide +kernel) (by decide +kernel)
set_option maxRecDepth 20000 in
theorem gX2_init_X0_init_n11 : GoodIn wsX2_init (wsX0_init) := ggX2_init_X0_init
set_option maxRecDepth 20000 in
theorem ggX2_init_X4_init : GoodIn wsX2_init wsX4_init := goodIn_r _ [27, 28, 2, 3, 19, 29, 30, 31, 32, 33, 34, 35, 36, 37, 38, 52, 53, 54, 55, 56, 57, 58, 59, 60, 61, 62, 63] (by decide +kernel) (by decide +kernel)
set_option maxRecDepth 20000 in
theorem gX2_init_X4_init_n20 : GoodIn wsX2_init (wsX4_init) := ggX2_init_X4_init
theorem dX2_init_0 : decode cX2_init 0 = .ok (.aload_n 0, 1) := by decide +kernel
theorem dX2_init_1 : decode cX2_init 1 = .ok (.invokespecial 3, 3) := by decide +kernel
theorem dX2_init_4 : decode cX2_init 4 = .ok (.aload_n 0, 1) := by decide +kernel
theorem dX2_init_5 : decode cX2_init 5 = .ok (.new 9, 3) := by decide +kernel
theorem dX2_init_8 : decode cX2_init 8 = .ok (.dup, 1) := by decide +kernel
theorem dX2_init_9 : decode cX2_init 9 = .ok (.invokespecial 11, 3) := by decide +kernel
theorem dX2_init_12 : decode cX2_init 12 = .ok (.putfield 12, 3) := by decide +kernel
theorem dX2_init_15 : decode cX2_init 15 = .ok (.aload_n 0, 1) := by decide +kernel
theorem dX2_init_16 : decode cX2_init 16 = .ok (.new 18, 3) := by decide +kernel
theorem dX2_init_19 : decode cX2_init 19 = .ok (.dup, 1) := by decide +kernel
theorem dX2_init_20 : decode cX2_init 20 = .ok (.invokespecial 20, 3) := by decide +kernel
theorem dX2_init_23 : decode cX2_init 23 = .ok (.putfield 21, 3) := by decide +kernel
theorem dX2_init_26 : decode cX2_init 26 = .ok (.aload_n 0, 1) := by decide +kernel
theorem dX2_init_27 : decode cX2_init 27 = .ok (.iconst 0, 1) := by decide +kernel
theorem dX2_init_28 : decode cX2_init 28 = .ok (.newarray .byte, 2) := by decide +kernel
theorem dX2_init_30 : decode cX2_init 30 = .ok (.putfield 25, 3) := by decide +kernel
theorem dX2_init_33 : decode cX2_init 33 = .ok (.aload_n 0, 1) := by decide +kernel
theorem dX2_init_34 : decode cX2_init 34 = .ok (.iconst 0, 1) := by decide +kernel
theorem dX2_init_35 : decode cX2_init 35 = .ok (.newarray .boolean, 2) := by decide +kernel
theorem dX2_init_37 : decode cX2_init 37 = .ok (.putfield 29, 3) := by decide +kernel
theorem dX2_init_40 : decode cX2_init 40 = .ok (.return_, 1) := by decide +kernel
set_option maxHeartbeats 4000000 in
set_option maxRecDepth 100000 in
theorem c_X2_init (l : Launch) (D : va_G) (h0 : Nat) (sz : Nat) : Met l yX2_init wsX2_init { frames := 2, cells := 20, slots := 2680, locals := 32 } (va_Pc [.ref h0] (fun U => U.heap.size = sz ∧ va_P D vwCl [(h0, .inr (2, [.null, .null, .null, .null, .int 0, .int 0]))] U.heap ∧ va_K D vwCl [] U ∧ va_D (fun _ => True) [(h0, .inr (2, [.null, .null, .null, .null, .int 0, .int 0]))] ∧ ∀ w ∈ sm_nest, va_Nw w U)) (va_Qv (fun _ : sm_A => True) (fun u t => va_P D vwCl [(h0, .inr (2, [.ref (u.1 0), .ref (u.1 7), .ref (u.1 18), .ref (u.1 19), .int 0, .int 0])), (u.1 0, .inr (0, [.int 0, .ref (u.1 1), .ref (u.1 2), .ref (u.1 3), .ref (u.1 4), .ref (u.1 5), .ref (u.1 6)])), (u.1 1, .inl (u.2 1, 32, .inl (fun _ => 0))), (u.1 2, .inl (u.2 2, 32, .inl (fun _ => 0))), (u.1 3, .inl (u.2 3, 480, .inl (fun _ => 0))), (u.1 4, .inl (u.2 4, 512, .inl (fun _ => 0))), (u.1 5, .inl (u.2 5, 512, .inl (fun _ => 0))), (u.1 6, .inl (u.2 6, 5, .inl (fun _ => 0))), (u.1 7, .inr (4, [.int 0, .int 0, .ref (u.1 8), .ref (u.1 9), .ref (u.1 10), .ref (u.1 11), .ref (u.1 12), .ref (u.1 13), .ref (u.1 14), .ref (u.1 15), .ref (u.1 16), .ref (u.1 17)])), (u.1 8, .inl (u.2 8, 64, .inl (fun _ => 0))), (u.1 9, .inl (u.2 9, 64, .inl (fun _ => 0))), (u.1 10, .inl (u.2 10, 512, .inl (fun _ => 0))), (u.1 11, .inl (u.2 11, 64, .inl (fun _ => 0))), (u.1 12, .inl (u.2 12, 64, .inl (fun _ => 0))), (u.1 13, .inl (u.2 13, 64, .inl (fun _ => 0))), (u.1 14, .inl (u.2 14, 64, .inl (fun _ => 0))), (u.1 15, .inl (u.2 15, 64, .inl (fun _ => 0))), (u.1 16, .inl (u.2 16, 64, .inl (fun _ => 0))), (u.1 17, .inl (u.2 17, 64, .inl (fun _ => 0))), (u.1 18, .inl (u.2 18, 0, .inl (fun _ => 0))), (u.1 19, .inl (u.2 19, 0, .inl (fun _ => 0)))] t.heap ∧ va_K D vwCl [(u.2 1, .int), (u.2 2, .int), (u.2 3, .int), (u.2 4, .int), (u.2 5, .int), (u.2 6, .int), (u.2 8, .int), (u.2 9, .int), (u.2 10, .int), (u.2 11, .int), (u.2 12, .int), (u.2 13, .int), (u.2 14, .int), (u.2 15, .int), (u.2 16, .int), (u.2 17, .int), (u.2 18, .byte), (u.2 19, .boolean)] t ∧ va_D (va_A [(h0, .inr (2, [.null, .null, .null, .null, .int 0, .int 0]))] sz) [(h0, .inr (2, [.ref (u.1 0), .ref (u.1 7), .ref (u.1 18), .ref (u.1 19), .int 0, .int 0])), (u.1 0, .inr (0, [.int 0, .ref (u.1 1), .ref (u.1 2), .ref (u.1 3), .ref (u.1 4), .ref (u.1 5), .ref (u.1 6)])), (u.1 1, .inl (u.2 1, 32, .inl (fun _ => 0))), (u.1 2, .inl (u.2 2, 32, .inl (fun _ => 0))), (u.1 3, .inl (u.2 3, 480, .inl (fun _ => 0))), (u.1 4, .inl (u.2 4, 512, .inl (fun _ => 0))), (u.1 5, .inl (u.2 5, 512, .inl (fun _ => 0))), (u.1 6, .inl (u.2 6, 5, .inl (fun _ => 0))), (u.1 7, .inr (4, [.int 0, .int 0, .ref (u.1 8), .ref (u.1 9), .ref (u.1 10), .ref (u.1 11), .ref (u.1 12), .ref (u.1 13), .ref (u.1 14), .ref (u.1 15), .ref (u.1 16), .ref (u.1 17)])), (u.1 8, .inl (u.2 8, 64, .inl (fun _ => 0))), (u.1 9, .inl (u.2 9, 64, .inl (fun _ => 0))), (u.1 10, .inl (u.2 10, 512, .inl (fun _ => 0))), (u.1 11, .inl (u.2 11, 64, .inl (fun _ => 0))), (u.1 12, .inl (u.2 12, 64, .inl (fun _ => 0))), (u.1 13, .inl (u.2 13, 64, .inl (fun _ => 0))), (u.1 14, .inl (u.2 14, 64, .inl (fun _ => 0))), (u.1 15, .inl (u.2 15, 64, .inl (fun _ => 0))), (u.1 16, .inl (u.2 16, 64, .inl (fun _ => 0))), (u.1 17, .inl (u.2 17, 64, .inl (fun _ => 0))), (u.1 18, .inl (u.2 18, 0, .inl (fun _ => 0))), (u.1 19, .inl (u.2 19, 0, .inl (fun _ => 0)))]) (va_A [(h0, .inr (2, [.null, .null, .null, .null, .int 0, .int 0]))] sz)) 20 2680 (va_A [(h0, .inr (2, [.null, .null, .null, .null, .int 0, .int 0]))] sz) := by
  refine Met.ofW (cc := cX2_init) (maxL := 1) (ret := none) (by decide) rfl ?_
  intro p e s m args below meth c s₁ B hml hv
  obtain ⟨rfl, hsz, hP, hK, hD0, hN⟩ := hv
  have hx := B.exec
  have hb := B.bytes
  have hr := B.returns
  have hts := atoms_spec (ws := wsX2_init) B.pre
  have hown : s.vm.findClass RX2 = some m.cls := findClass_of_methodNamed B.named
  have hlocks := B.notSynchronized
  have hin : meth.name = "<init>" := (name_of_methodNamed B.named B.method).1
  subst hsz
  have hD := hD0.self (sz := s.heap.size)
  generalize hAe : va_A [(h0, .inr (2, [.null, .null, .null, .null, .int 0, .int 0]))] s.heap.size = A at hD ⊢
  have hA : ∀ q : Nat, s.heap.size ≤ q → A q := fun q h => by rw [← hAe]; exact Or.inr h
  have hS : va_S A s.heap s.heap [] := va_S.rf
  have in_X0 : ∀ w ∈ wsX00, w ∈ wsX2_init := by decide +kernel
  have in_X2 : ∀ w ∈ wsX20, w ∈ wsX2_init := by decide +kernel
  have in_X4 : ∀ w ∈ wsX40, w ∈ wsX2_init := by decide +kernel
  have k_0 := hts (.methodLink RX2 3 objectInit) (by decide +kernel)
  have k_1 := hts (.instanceMethod objectInit) (by decide +kernel)
  have k_2 := hts (.code objectInit ⟨#[0xb1]⟩ 1 none) (by decide +kernel)
  have k_3 := hts (.classLink RX2 9 RX0) (by decide +kernel)
  have k_4 := hts (.instantiable RX0 7) (by decide +kernel)
  have k_5 := hts (.initialized RX0) (by decide +kernel)
  have k_6 := hts (.instanceMethod yX0_init) (by decide +kernel)
  have k_7 := hts (.fieldLink RX2 12 "SteadyMachine$Image" "classes" "LSteadyMachine$Classes;") (by decide +kernel)
  have k_8 := hts (.classLink RX2 18 RX4) (by decide +kernel)
  have k_9 := hts (.instantiable RX4 12) (by decide +kernel)
  have k_10 := hts (.initialized RX4) (by decide +kernel)
  have k_11 := hts (.instanceMethod yX4_init) (by decide +kernel)
  have k_12 := hts (.fieldLink RX2 21 "SteadyMachine$Image" "methods" "LSteadyMachine$Methods;") (by decide +kernel)
  have k_13 := hts (.arrayClass .byte) (by decide +kernel)
  have k_14 := hts (.fieldLink RX2 25 "SteadyMachine$Image" "bytes" "[B") (by decide +kernel)
  have k_15 := hts (.arrayClass .boolean) (by decide +kernel)
  have k_16 := hts (.fieldLink RX2 29 "SteadyMachine$Image" "begins" "[Z") (by decide +kernel)
  have hl := lv_entry ([.ref h0]) (n := 1) (Nat.le_of_ble_eq_true rfl)
  rw [lg_entry_eq]
  generalize (lg_sl ([.ref h0]) ++ List.replicate (1 - (lg_sl ([.ref h0])).length) Slot.unset).toArray = ls at hl ⊢
  have hl : lv_has ls 1 [(0, .ref h0)] := hl
  refine lv_aload_n hx hb dX2_init_0 rfl (lv_at hl 0 rfl) ?_
  refine W.objInit hx hb hown k_0 k_1 k_2 rfl (by rw [hml]; exact hl.1) rfl dX2_init_1 (Nat.le_of_ble_eq_true rfl) (Nat.le_of_ble_eq_true rfl) ?_
  refine W.eq (g2 := F0 m 4 ls []) rfl ?_
  refine lv_aload_n hx hb dX2_init_4 rfl (lv_at hl 0 rfl) ?_
  refine va_new (ci := 0) (fs := [.int 0, .null, .null, .null, .null, .null, .null]) (C := RX0) (T := TX0) (N := 7) hx hb hts in_X0 tyX0 tyX0_ok hown k_3 k_4 k_5 hK hP hD hS hA rfl (fun j hj => by rcases (show j = 0 ∨ j = 1 ∨ j = 2 ∨ j = 3 ∨ j = 4 ∨ j = 5 ∨ j = 6 by omega) with rfl | rfl | rfl | rfl | rfl | rfl | rfl <;> rfl) (Nat.le_of_ble_eq_true rfl) (Nat.le_of_ble_eq_true rfl) dX2_init_5 (fun q0 H hP hD hS => ?_)
  have hP : va_P D vwCl [(h0, .inr (2, [.null, .null, .null, .null, .int 0, .int 0])), (q0, .inr (0, [.int 0, .null, .null, .null, .null, .null, .null]))] H := hP
  have hD : va_D A [(h0, .inr (2, [.null, .null, .null, .null, .int 0, .int 0])), (q0, .inr (0, [.int 0, .null, .null, .null, .null, .null, .null]))] := hD
  refine W.widen (k := 1) (n := 7) (by omega) (by omega) ?_
  refine lv_dup hx hb dX2_init_8 rfl ?_
  have hPc := hP.sub (ws' := [(q0, .inr (0, [.int 0, .null, .null, .null, .null, .null, .null]))]) [1] rfl
  have hDc := hD.sub (ws' := [(q0, .inr (0, [.int 0, .null, .null, .null, .null, .null, .null]))]) [1] (by decide) rfl
  have hKc := hK.sub (tys' := []) [] rfl
  have hFc := va_free (wc := [(q0, .inr (0, [.int 0, .null, .null, .null, .null, .null, .null]))]) hD hS hA [1] rfl
  refine va_callv (va_runIN (As := []) (rest := [.ref q0, .ref h0]) ⟨hx, hb, hml, hown, hts⟩ (c_X0_init l D q0 H.size) ⟨va_cnB 0 hts gX2_init_X0_init_n11 rfl rfl rfl (hN (.methodLinkNest "SteadyMachine$Image" 11 ⟨"SteadyMachine$Classes", "<init>", "()V"⟩ "SteadyMachine") (by decide +kernel)) k_5 (by decide +kernel) ⟨Nat.le_of_ble_eq_true rfl, Nat.le_of_ble_eq_true rfl⟩, rfl, k_6⟩ ⟨fun a U g mk q => by obtain ⟨q0, q1, qP, qK, qD, qN⟩ := q; exact ⟨q0, q1, qP, va_K.moved (u := U) (U := U.calling g mk a) (Vm.Alike.refl U.vm) qK, qD, fun w hw => va_Nw.same (u := U) (U := U.calling g mk a) (sm_nest_ok w hw) rfl (qN w hw)⟩, fun U hU hW => ⟨rfl, by rw [hU], by rw [hU]; exact hPc, va_K.moved hW.alike hKc, hDc.weaken (fun _ _ _ _ => trivial), sm_warm hW hN⟩⟩ rfl rfl hl.1 rfl (lv_room (Nat.le_of_ble_eq_true rfl)) dX2_init_9 ⟨Nat.le_of_ble_eq_true rfl, Nat.le_of_ble_eq_true rfl⟩) hS (fun q _ h => hFc q h) hFc (fun u9 t H1 locs ht hvm hw hB hz1 hk1 hS => ?_)
  obtain ⟨hP1, hK1, hD1⟩ := hB
  rw [ht] at hP1
  have hK1 := va_K.moved hvm.symm hK1
  obtain ⟨hP, hD⟩ := va_join (wr := [(h0, .inr (2, [.null, .null, .null, .null, .int 0, .int 0]))]) (w1 := [(q0, .inr (0, [.int 0, .ref (u9.1 0), .ref (u9.1 1), .ref (u9.1 2), .ref (u9.1 3), .ref (u9.1 4), .ref (u9.1 5)])), (u9.1 0, .inl (u9.2 0, 32, .inl (fun _ => 0))), (u9.1 1, .inl (u9.2 1, 32, .inl (fun _ => 0))), (u9.1 2, .inl (u9.2 2, 480, .inl (fun _ => 0))), (u9.1 3, .inl (u9.2 3, 512, .inl (fun _ => 0))), (u9.1 4, .inl (u9.2 4, 512, .inl (fun _ => 0))), (u9.1 5, .inl (u9.2 5, 5, .inl (fun _ => 0)))]) hP hD [1] [0] rfl rfl (by decide) (by decide) hk1 hFc hP1 hD1
  have hK := (hK.sub (tys' := []) [] rfl).app hK1
  generalize H1 = H at hP hS ⊢
  have hP : va_P D vwCl [(h0, .inr (2, [.null, .null, .null, .null, .int 0, .int 0])), (q0, .inr (0, [.int 0, .ref (u9.1 0), .ref (u9.1 1), .ref (u9.1 2), .ref (u9.1 3), .ref (u9.1 4), .ref (u9.1 5)])), (u9.1 0, .inl (u9.2 0, 32, .inl (fun _ => 0))), (u9.1 1, .inl (u9.2 1, 32, .inl (fun _ => 0))), (u9.1 2, .inl (u9.2 2, 480, .inl (fun _ => 0))), (u9.1 3, .inl (u9.2 3, 512, .inl (fun _ => 0))), (u9.1 4, .inl (u9.2 4, 512, .inl (fun _ => 0))), (u9.1 5, .inl (u9.2 5, 5, .inl (fun _ => 0)))] H := hP
  have hD : va_D A [(h0, .inr (2, [.null, .null, .null, .null, .int 0, .int 0])), (q0, .inr (0, [.int 0, .ref (u9.1 0), .ref (u9.1 1), .ref (u9.1 2), .ref (u9.1 3), .ref (u9.1 4), .ref (u9.1 5)])), (u9.1 0, .inl (u9.2 0, 32, .inl (fun _ => 0))), (u9.1 1, .inl (u9.2 1, 32, .inl (fun _ => 0))), (u9.1 2, .inl (u9.2 2, 480, .inl (fun _ => 0))), (u9.1 3, .inl (u9.2 3, 512, .inl (fun _ => 0))), (u9.1 4, .inl (u9.2 4, 512, .inl (fun _ => 0))), (u9.1 5, .inl (u9.2 5, 5, .inl (fun _ => 0)))] := hD
  have hK : va_K D vwCl [(u9.2 0, .int), (u9.2 1, .int), (u9.2 2, .int), (u9.2 3, .int), (u9.2 4, .int), (u9.2 5, .int)] s := hK
  refine W.widen (k := 7) (n := 1580) (by omega) (by omega) ?_
  refine va_putF (D := D) (ci := 2) (v := .ref q0) (ty := .object "SteadyMachine$Classes") (C := RX2) (T := TX2) (N := 6) hx hb hts in_X2 tyX2 tyX2_ok nmX2 hown hK hP hD hS 0 rfl rfl 0 (by decide) k_7 (fun _ h9 => h9) rfl hin rfl (by decide +kernel) rfl rfl (Nat.le_of_ble_eq_true rfl) dX2_init_12 (fun H locs hP hD hS => ?_)
  have hP : va_P D vwCl [(h0, .inr (2, [.ref q0, .null, .null, .null, .int 0, .int 0])), (q0, .inr (0, [.int 0, .ref (u9.1 0), .ref (u9.1 1), .ref (u9.1 2), .ref (u9.1 3), .ref (u9.1 4), .ref (u9.1 5)])), (u9.1 0, .inl (u9.2 0, 32, .inl (fun _ => 0))), (u9.1 1, .inl (u9.2 1, 32, .inl (fun _ => 0))), (u9.1 2, .inl (u9.2 2, 480, .inl (fun _ => 0))), (u9.1 3, .inl (u9.2 3, 512, .inl (fun _ => 0))), (u9.1 4, .inl (u9.2 4, 512, .inl (fun _ => 0))), (u9.1 5, .inl (u9.2 5, 5, .inl (fun _ => 0)))] H := hP
  have hD : va_D A [(h0, .inr (2, [.ref q0, .null, .null, .null, .int 0, .int 0])), (q0, .inr (0, [.int 0, .ref (u9.1 0), .ref (u9.1 1), .ref (u9.1 2), .ref (u9.1 3), .ref (u9.1 4), .ref (u9.1 5)])), (u9.1 0, .inl (u9.2 0, 32, .inl (fun _ => 0))), (u9.1 1, .inl (u9.2 1, 32, .inl (fun _ => 0))), (u9.1 2, .inl (u9.2 2, 480, .inl (fun _ => 0))), (u9.1 3, .inl (u9.2 3, 512, .inl (fun _ => 0))), (u9.1 4, .inl (u9.2 4, 512, .inl (fun _ => 0))), (u9.1 5, .inl (u9.2 5, 5, .inl (fun _ => 0)))] := hD
  refine lv_aload_n hx hb dX2_init_15 rfl (lv_at hl 0 rfl) ?_
  refine va_new (ci := 4) (fs := [.int 0, .int 0, .null, .null, .null, .null, .null, .null, .null, .null, .null, .null]) (C := RX4) (T := TX4) (N := 12) hx hb hts in_X4 tyX4 tyX4_ok hown k_8 k_9 k_10 hK hP hD hS hA rfl (fun j hj => by rcases (show j = 0 ∨ j = 1 ∨ j = 2 ∨ j = 3 ∨ j = 4 ∨ j = 5 ∨ j = 6 ∨ j = 7 ∨ j = 8 ∨ j = 9 ∨ j = 10 ∨ j = 11 by omega) with rfl | rfl | rfl | rfl | rfl | rfl | rfl | rfl | rfl | rfl | rfl | rfl <;> rfl) (Nat.le_of_ble_eq_true rfl) (Nat.le_of_ble_eq_true rfl) dX2_init_16 (fun q1 H hP hD hS => ?_)
  have hP : va_P D vwCl [(h0, .inr (2, [.ref q0, .null, .null, .null, .int 0, .int 0])), (q0, .inr (0, [.int 0, .ref (u9.1 0), .ref (u9.1 1), .ref (u9.1 2), .ref (u9.1 3), .ref (u9.1 4), .ref (u9.1 5)])), (u9.1 0, .inl (u9.2 0, 32, .inl (fun _ => 0))), (u9.1 1, .inl (u9.2 1, 32, .inl (fun _ => 0))), (u9.1 2, .inl (u9.2 2, 480, .inl (fun _ => 0))), (u9.1 3, .inl (u9.2 3, 512, .inl (fun _ => 0))), (u9.1 4, .inl (u9.2 4, 512, .inl (fun _ => 0))), (u9.1 5, .inl (u9.2 5, 5, .inl (fun _ => 0))), (q1, .inr (4, [.int 0, .int 0, .null, .null, .null, .null, .null, .null, .null, .null, .null, .null]))] H := hP
  have hD : va_D A [(h0, .inr (2, [.ref q0, .null, .null, .null, .int 0, .int 0])), (q0, .inr (0, [.int 0, .ref (u9.1 0), .ref (u9.1 1), .ref (u9.1 2), .ref (u9.1 3), .ref (u9.1 4), .ref (u9.1 5)])), (u9.1 0, .inl (u9.2 0, 32, .inl (fun _ => 0))), (u9.1 1, .inl (u9.2 1, 32, .inl (fun _ => 0))), (u9.1 2, .inl (u9.2 2, 480, .inl (fun _ => 0))), (u9.1 3, .inl (u9.2 3, 512, .inl (fun _ => 0))), (u9.1 4, .inl (u9.2 4, 512, .inl (fun _ => 0))), (u9.1 5, .inl (u9.2 5, 5, .inl (fun _ => 0))), (q1, .inr (4, [.int 0, .int 0, .null, .null, .null, .null, .null, .null, .null, .null, .null, .null]))] := hD
  refine W.widen (k := 8) (n := 1592) (by omega) (by omega) ?_
  refine lv_dup hx hb dX2_init_19 rfl ?_
  have hPc := hP.sub (ws' := [(q1, .inr (4, [.int 0, .int 0, .null, .null, .null, .null, .null, .null, .null, .null, .null, .null]))]) [8] rfl
  have hDc := hD.sub (ws' := [(q1, .inr (4, [.int 0, .int 0, .null, .null, .null, .null, .null, .null, .null, .null, .null, .null]))]) [8] (by decide) rfl
  have hKc := hK.sub (tys' := []) [] rfl
  have hFc := va_free (wc := [(q1, .inr (4, [.int 0, .int 0, .null, .null, .null, .null, .null, .null, .null, .null, .null, .null]))]) hD hS hA [8] rfl
  refine va_callv (va_runIN (As := []) (rest := [.ref q1, .ref h0]) ⟨hx, hb, hml, hown, hts⟩ (c_X4_init l D q1 H.size) ⟨va_cnB 0 hts gX2_init_X4_init_n20 rfl rfl rfl (hN (.methodLinkNest "SteadyMachine$Image" 20 ⟨"SteadyMachine$Methods", "<init>", "()V"⟩ "SteadyMachine") (by decide +kernel)) k_10 (by decide +kernel) ⟨Nat.le_of_ble_eq_true rfl, Nat.le_of_ble_eq_true rfl⟩, rfl, k_11⟩ ⟨fun a U g mk q => by obtain ⟨q0, q1, qP, qK, qD, qN⟩ := q; exact ⟨q0, q1, qP, va_K.moved (u := U) (U := U.calling g mk a) (Vm.Alike.refl U.vm) qK, qD, fun w hw => va_Nw.same (u := U) (U := U.calling g mk a) (sm_nest_ok w hw) rfl (qN w hw)⟩, fun U hU hW => ⟨rfl, by rw [hU], by rw [hU]; exact hPc, va_K.moved hW.alike hKc, hDc.weaken (fun _ _ _ _ => trivial), sm_warm hW hN⟩⟩ rfl rfl hl.1 rfl (lv_room (Nat.le_of_ble_eq_true rfl)) dX2_init_20 ⟨Nat.le_of_ble_eq_true rfl, Nat.le_of_ble_eq_true rfl⟩) hS (fun q _ h => hFc q h) hFc (fun u20 t H1 locs ht hvm hw hB hz1 hk1 hS => ?_)
  obtain ⟨hP1, hK1, hD1⟩ := hB
  rw [ht] at hP1
  have hK1 := va_K.moved hvm.symm hK1
  obtain ⟨hP, hD⟩ := va_join (wr := [(h0, .inr (2, [.ref q0, .null, .null, .null, .int 0, .int 0])), (q0, .inr (0, [.int 0, .ref (u9.1 0), .ref (u9.1 1), .ref (u9.1 2), .ref (u9.1 3), .ref (u9.1 4), .ref (u9.1 5)])), (u9.1 0, .inl (u9.2 0, 32, .inl (fun _ => 0))), (u9.1 1, .inl (u9.2 1, 32, .inl (fun _ => 0))), (u9.1 2, .inl (u9.2 2, 480, .inl (fun _ => 0))), (u9.1 3, .inl (u9.2 3, 512, .inl (fun _ => 0))), (u9.1 4, .inl (u9.2 4, 512, .inl (fun _ => 0))), (u9.1 5, .inl (u9.2 5, 5, .inl (fun _ => 0)))]) (w1 := [(q1, .inr (4, [.int 0, .int 0, .ref (u20.1 0), .ref (u20.1 1), .ref (u20.1 2), .ref (u20.1 3), .ref (u20.1 4), .ref (u20.1 5), .ref (u20.1 6), .ref (u20.1 7), .ref (u20.1 8), .ref (u20.1 9)])), (u20.1 0, .inl (u20.2 0, 64, .inl (fun _ => 0))), (u20.1 1, .inl (u20.2 1, 64, .inl (fun _ => 0))), (u20.1 2, .inl (u20.2 2, 512, .inl (fun _ => 0))), (u20.1 3, .inl (u20.2 3, 64, .inl (fun _ => 0))), (u20.1 4, .inl (u20.2 4, 64, .inl (fun _ => 0))), (u20.1 5, .inl (u20.2 5, 64, .inl (fun _ => 0))), (u20.1 6, .inl (u20.2 6, 64, .inl (fun _ => 0))), (u20.1 7, .inl (u20.2 7, 64, .inl (fun _ => 0))), (u20.1 8, .inl (u20.2 8, 64, .inl (fun _ => 0))), (u20.1 9, .inl (u20.2 9, 64, .inl (fun _ => 0)))]) hP hD [8] [0, 1, 2, 3, 4, 5, 6, 7] rfl rfl (by decide) (by decide) hk1 hFc hP1 hD1
  have hK := (hK.sub (tys' := [(u9.2 0, .int), (u9.2 1, .int), (u9.2 2, .int), (u9.2 3, .int), (u9.2 4, .int), (u9.2 5, .int)]) [0, 1, 2, 3, 4, 5] rfl).app hK1
  generalize H1 = H at hP hS ⊢
  have hP : va_P D vwCl [(h0, .inr (2, [.ref q0, .null, .null, .null, .int 0, .int 0])), (q0, .inr (0, [.int 0, .ref (u9.1 0), .ref (u9.1 1), .ref (u9.1 2), .ref (u9.1 3), .ref (u9.1 4), .ref (u9.1 5)])), (u9.1 0, .inl (u9.2 0, 32, .inl (fun _ => 0))), (u9.1 1, .inl (u9.2 1, 32, .inl (fun _ => 0))), (u9.1 2, .inl (u9.2 2, 480, .inl (fun _ => 0))), (u9.1 3, .inl (u9.2 3, 512, .inl (fun _ => 0))), (u9.1 4, .inl (u9.2 4, 512, .inl (fun _ => 0))), (u9.1 5, .inl (u9.2 5, 5, .inl (fun _ => 0))), (q1, .inr (4, [.int 0, .int 0, .ref (u20.1 0), .ref (u20.1 1), .ref (u20.1 2), .ref (u20.1 3), .ref (u20.1 4), .ref (u20.1 5), .ref (u20.1 6), .ref (u20.1 7), .ref (u20.1 8), .ref (u20.1 9)])), (u20.1 0, .inl (u20.2 0, 64, .inl (fun _ => 0))), (u20.1 1, .inl (u20.2 1, 64, .inl (fun _ => 0))), (u20.1 2, .inl (u20.2 2, 512, .inl (fun _ => 0))), (u20.1 3, .inl (u20.2 3, 64, .inl (fun _ => 0))), (u20.1 4, .inl (u20.2 4, 64, .inl (fun _ => 0))), (u20.1 5, .inl (u20.2 5, 64, .inl (fun _ => 0))), (u20.1 6, .inl (u20.2 6, 64, .inl (fun _ => 0))), (u20.1 7, .inl (u20.2 7, 64, .inl (fun _ => 0))), (u20.1 8, .inl (u20.2 8, 64, .inl (fun _ => 0))), (u20.1 9, .inl (u20.2 9, 64, .inl (fun _ => 0)))] H := hP
  have hD : va_D A [(h0, .inr (2, [.ref q0, .null, .null, .null, .int 0, .int 0])), (q0, .inr (0, [.int 0, .ref (u9.1 0), .ref (u9.1 1), .ref (u9.1 2), .ref (u9.1 3), .ref (u9.1 4), .ref (u9.1 5)])), (u9.1 0, .inl (u9.2 0, 32, .inl (fun _ => 0))), (u9.1 1, .inl (u9.2 1, 32, .inl (fun _ => 0))), (u9.1 2, .inl (u9.2 2, 480, .inl (fun _ => 0))), (u9.1 3, .inl (u9.2 3, 512, .inl (fun _ => 0))), (u9.1 4, .inl (u9.2 4, 512, .inl (fun _ => 0))), (u9.1 5, .inl (u9.2 5, 5, .inl (fun _ => 0))), (q1, .inr (4, [.int 0, .int 0, .ref (u20.1 0), .ref (u20.1 1), .ref (u20.1 2), .ref (u20.1 3), .ref (u20.1 4), .ref (u20.1 5), .ref (u20.1 6), .ref (u20.1 7), .ref (u20.1 8), .ref (u20.1 9)])), (u20.1 0, .inl (u20.2 0, 64, .inl (fun _ => 0))), (u20.1 1, .inl (u20.2 1, 64, .inl (fun _ => 0))), (u20.1 2, .inl (u20.2 2, 512, .inl (fun _ => 0))), (u20.1 3, .inl (u20.2 3, 64, .inl (fun _ => 0))), (u20.1 4, .inl (u20.2 4, 64, .inl (fun _ => 0))), (u20.1 5, .inl (u20.2 5, 64, .inl (fun _ => 0))), (u20.1 6, .inl (u20.2 6, 64, .inl (fun _ => 0))), (u20.1 7, .inl (u20.2 7, 64, .inl (fun _ => 0))), (u20.1 8, .inl (u20.2 8, 64, .inl (fun _ => 0))), (u20.1 9, .inl (u20.2 9, 64, .inl (fun _ => 0)))] := hD
  have hK : va_K D vwCl [(u9.2 0, .int), (u9.2 1, .int), (u9.2 2, .int), (u9.2 3, .int), (u9.2 4, .int), (u9.2 5, .int), (u20.2 0, .int), (u20.2 1, .int), (u20.2 2, .int), (u20.2 3, .int), (u20.2 4, .int), (u20.2 5, .int), (u20.2 6, .int), (u20.2 7, .int), (u20.2 8, .int), (u20.2 9, .int)] s := hK
  refine W.widen (k := 18) (n := 2680) (by omega) (by omega) ?_
  refine va_putF (D := D) (ci := 2) (v := .ref q1) (ty := .object "SteadyMachine$Methods") (C := RX2) (T := TX2) (N := 6) hx hb hts in_X2 tyX2 tyX2_ok nmX2 hown hK hP hD hS 0 rfl rfl 1 (by decide) k_12 (fun _ h9 => h9) rfl hin rfl (by decide +kernel) rfl rfl (Nat.le_of_ble_eq_true rfl) dX2_init_23 (fun H locs hP hD hS => ?_)
  have hP : va_P D vwCl [(h0, .inr (2, [.ref q0, .ref q1, .null, .null, .int 0, .int 0])), (q0, .inr (0, [.int 0, .ref (u9.1 0), .ref (u9.1 1), .ref (u9.1 2), .ref (u9.1 3), .ref (u9.1 4), .ref (u9.1 5)])), (u9.1 0, .inl (u9.2 0, 32, .inl (fun _ => 0))), (u9.1 1, .inl (u9.2 1, 32, .inl (fun _ => 0))), (u9.1 2, .inl (u9.2 2, 480, .inl (fun _ => 0))), (u9.1 3, .inl (u9.2 3, 512, .inl (fun _ => 0))), (u9.1 4, .inl (u9.2 4, 512, .inl (fun _ => 0))), (u9.1 5, .inl (u9.2 5, 5, .inl (fun _ => 0))), (q1, .inr (4, [.int 0, .int 0, .ref (u20.1 0), .ref (u20.1 1), .ref (u20.1 2), .ref (u20.1 3), .ref (u20.1 4), .ref (u20.1 5), .ref (u20.1 6), .ref (u20.1 7), .ref (u20.1 8), .ref (u20.1 9)])), (u20.1 0, .inl (u20.2 0, 64, .inl (fun _ => 0))), (u20.1 1, .inl (u20.2 1, 64, .inl (fun _ => 0))), (u20.1 2, .inl (u20.2 2, 512, .inl (fun _ => 0))), (u20.1 3, .inl (u20.2 3, 64, .inl (fun _ => 0))), (u20.1 4, .inl (u20.2 4, 64, .inl (fun _ => 0))), (u20.1 5, .inl (u20.2 5, 64, .inl (fun _ => 0))), (u20.1 6, .inl (u20.2 6, 64, .inl (fun _ => 0))), (u20.1 7, .inl (u20.2 7, 64, .inl (fun _ => 0))), (u20.1 8, .inl (u20.2 8, 64, .inl (fun _ => 0))), (u20.1 9, .inl (u20.2 9, 64, .inl (fun _ => 0)))] H := hP
  have hD : va_D A [(h0, .inr (2, [.ref q0, .ref q1, .null, .null, .int 0, .int 0])), (q0, .inr (0, [.int 0, .ref (u9.1 0), .ref (u9.1 1), .ref (u9.1 2), .ref (u9.1 3), .ref (u9.1 4), .ref (u9.1 5)])), (u9.1 0, .inl (u9.2 0, 32, .inl (fun _ => 0))), (u9.1 1, .inl (u9.2 1, 32, .inl (fun _ => 0))), (u9.1 2, .inl (u9.2 2, 480, .inl (fun _ => 0))), (u9.1 3, .inl (u9.2 3, 512, .inl (fun _ => 0))), (u9.1 4, .inl (u9.2 4, 512, .inl (fun _ => 0))), (u9.1 5, .inl (u9.2 5, 5, .inl (fun _ => 0))), (q1, .inr (4, [.int 0, .int 0, .ref (u20.1 0), .ref (u20.1 1), .ref (u20.1 2), .ref (u20.1 3), .ref (u20.1 4), .ref (u20.1 5), .ref (u20.1 6), .ref (u20.1 7), .ref (u20.1 8), .ref (u20.1 9)])), (u20.1 0, .inl (u20.2 0, 64, .inl (fun _ => 0))), (u20.1 1, .inl (u20.2 1, 64, .inl (fun _ => 0))), (u20.1 2, .inl (u20.2 2, 512, .inl (fun _ => 0))), (u20.1 3, .inl (u20.2 3, 64, .inl (fun _ => 0))), (u20.1 4, .inl (u20.2 4, 64, .inl (fun _ => 0))), (u20.1 5, .inl (u20.2 5, 64, .inl (fun _ => 0))), (u20.1 6, .inl (u20.2 6, 64, .inl (fun _ => 0))), (u20.1 7, .inl (u20.2 7, 64, .inl (fun _ => 0))), (u20.1 8, .inl (u20.2 8, 64, .inl (fun _ => 0))), (u20.1 9, .inl (u20.2 9, 64, .inl (fun _ => 0)))] := hD
  refine lv_aload_n hx hb dX2_init_26 rfl (lv_at hl 0 rfl) ?_
  refine lv_iconst (v := 0) hx hb dX2_init_27 (by decide) ?_
  refine va_newa (atype := .byte) (ty := .byte) (n := 0) (N' := 0) (a0 := (0, .inl (fun _ => 0))) hx hb k_13 rfl hK hP hD hS hA (fun _ => rfl) (by decide) (by decide) (by decide) (Nat.le_of_ble_eq_true rfl) (Nat.le_of_ble_eq_true rfl) dX2_init_28 (fun q2 c2 H hK hP hD hS => ?_)
  have hP : va_P D vwCl [(h0, .inr (2, [.ref q0, .ref q1, .null, .null, .int 0, .int 0])), (q0, .inr (0, [.int 0, .ref (u9.1 0), .ref (u9.1 1), .ref (u9.1 2), .ref (u9.1 3), .ref (u9.1 4), .ref (u9.1 5)])), (u9.1 0, .inl (u9.2 0, 32, .inl (fun _ => 0))), (u9.1 1, .inl (u9.2 1, 32, .inl (fun _ => 0))), (u9.1 2, .inl (u9.2 2, 480, .inl (fun _ => 0))), (u9.1 3, .inl (u9.2 3, 512, .inl (fun _ => 0))), (u9.1 4, .inl (u9.2 4, 512, .inl (fun _ => 0))), (u9.1 5, .inl (u9.2 5, 5, .inl (fun _ => 0))), (q1, .inr (4, [.int 0, .int 0, .ref (u20.1 0), .ref (u20.1 1), .ref (u20.1 2), .ref (u20.1 3), .ref (u20.1 4), .ref (u20.1 5), .ref (u20.1 6), .ref (u20.1 7), .ref (u20.1 8), .ref (u20.1 9)])), (u20.1 0, .inl (u20.2 0, 64, .inl (fun _ => 0))), (u20.1 1, .inl (u20.2 1, 64, .inl (fun _ => 0))), (u20.1 2, .inl (u20.2 2, 512, .inl (fun _ => 0))), (u20.1 3, .inl (u20.2 3, 64, .inl (fun _ => 0))), (u20.1 4, .inl (u20.2 4, 64, .inl (fun _ => 0))), (u20.1 5, .inl (u20.2 5, 64, .inl (fun _ => 0))), (u20.1 6, .inl (u20.2 6, 64, .inl (fun _ => 0))), (u20.1 7, .inl (u20.2 7, 64, .inl (fun _ => 0))), (u20.1 8, .inl (u20.2 8, 64, .inl (fun _ => 0))), (u20.1 9, .inl (u20.2 9, 64, .inl (fun _ => 0))), (q2, .inl (c2, 0, .inl (fun _ => 0)))] H := hP
  have hD : va_D A [(h0, .inr (2, [.ref q0, .ref q1, .null, .null, .int 0, .int 0])), (q0, .inr (0, [.int 0, .ref (u9.1 0), .ref (u9.1 1), .ref (u9.1 2), .ref (u9.1 3), .ref (u9.1 4), .ref (u9.1 5)])), (u9.1 0, .inl (u9.2 0, 32, .inl (fun _ => 0))), (u9.1 1, .inl (u9.2 1, 32, .inl (fun _ => 0))), (u9.1 2, .inl (u9.2 2, 480, .inl (fun _ => 0))), (u9.1 3, .inl (u9.2 3, 512, .inl (fun _ => 0))), (u9.1 4, .inl (u9.2 4, 512, .inl (fun _ => 0))), (u9.1 5, .inl (u9.2 5, 5, .inl (fun _ => 0))), (q1, .inr (4, [.int 0, .int 0, .ref (u20.1 0), .ref (u20.1 1), .ref (u20.1 2), .ref (u20.1 3), .ref (u20.1 4), .ref (u20.1 5), .ref (u20.1 6), .ref (u20.1 7), .ref (u20.1 8), .ref (u20.1 9)])), (u20.1 0, .inl (u20.2 0, 64, .inl (fun _ => 0))), (u20.1 1, .inl (u20.2 1, 64, .inl (fun _ => 0))), (u20.1 2, .inl (u20.2 2, 512, .inl (fun _ => 0))), (u20.1 3, .inl (u20.2 3, 64, .inl (fun _ => 0))), (u20.1 4, .inl (u20.2 4, 64, .inl (fun _ => 0))), (u20.1 5, .inl (u20.2 5, 64, .inl (fun _ => 0))), (u20.1 6, .inl (u20.2 6, 64, .inl (fun _ => 0))), (u20.1 7, .inl (u20.2 7, 64, .inl (fun _ => 0))), (u20.1 8, .inl (u20.2 8, 64, .inl (fun _ => 0))), (u20.1 9, .inl (u20.2 9, 64, .inl (fun _ => 0))), (q2, .inl (c2, 0, .inl (fun _ => 0)))] := hD
  have hK : va_K D vwCl [(u9.2 0, .int), (u9.2 1, .int), (u9.2 2, .int), (u9.2 3, .int), (u9.2 4, .int), (u9.2 5, .int), (u20.2 0, .int), (u20.2 1, .int), (u20.2 2, .int), (u20.2 3, .int), (u20.2 4, .int), (u20.2 5, .int), (u20.2 6, .int), (u20.2 7, .int), (u20.2 8, .int), (u20.2 9, .int), (c2, .byte)] s := hK
  refine W.widen (k := 19) (n := 2680) (by omega) (by omega) ?_
  refine va_put (D := D) (ci := 2) (v := .ref q2) (ty := .array .byte) (C := RX2) (T := TX2) (N := 6) hx hb hts in_X2 tyX2 tyX2_ok nmX2 hown hK hP hD hS 0 rfl rfl 2 (by decide) k_14 (fun _ h9 => h9) rfl (by decide +kernel) rfl rfl (Nat.le_of_ble_eq_true rfl) dX2_init_30 (fun H locs hP hD hS => ?_)
  have hP : va_P D vwCl [(h0, .inr (2, [.ref q0, .ref q1, .ref q2, .null, .int 0, .int 0])), (q0, .inr (0, [.int 0, .ref (u9.1 0), .ref (u9.1 1), .ref (u9.1 2), .ref (u9.1 3), .ref (u9.1 4), .ref (u9.1 5)])), (u9.1 0, .inl (u9.2 0, 32, .inl (fun _ => 0))), (u9.1 1, .inl (u9.2 1, 32, .inl (fun _ => 0))), (u9.1 2, .inl (u9.2 2, 480, .inl (fun _ => 0))), (u9.1 3, .inl (u9.2 3, 512, .inl (fun _ => 0))), (u9.1 4, .inl (u9.2 4, 512, .inl (fun _ => 0))), (u9.1 5, .inl (u9.2 5, 5, .inl (fun _ => 0))), (q1, .inr (4, [.int 0, .int 0, .ref (u20.1 0), .ref (u20.1 1), .ref (u20.1 2), .ref (u20.1 3), .ref (u20.1 4), .ref (u20.1 5), .ref (u20.1 6), .ref (u20.1 7), .ref (u20.1 8), .ref (u20.1 9)])), (u20.1 0, .inl (u20.2 0, 64, .inl (fun _ => 0))), (u20.1 1, .inl (u20.2 1, 64, .inl (fun _ => 0))), (u20.1 2, .inl (u20.2 2, 512, .inl (fun _ => 0))), (u20.1 3, .inl (u20.2 3, 64, .inl (fun _ => 0))), (u20.1 4, .inl (u20.2 4, 64, .inl (fun _ => 0))), (u20.1 5, .inl (u20.2 5, 64, .inl (fun _ => 0))), (u20.1 6, .inl (u20.2 6, 64, .inl (fun _ => 0))), (u20.1 7, .inl (u20.2 7, 64, .inl (fun _ => 0))), (u20.1 8, .inl (u20.2 8, 64, .inl (fun _ => 0))), (u20.1 9, .inl (u20.2 9, 64, .inl (fun _ => 0))), (q2, .inl (c2, 0, .inl (fun _ => 0)))] H := hP
  have hD : va_D A [(h0, .inr (2, [.ref q0, .ref q1, .ref q2, .null, .int 0, .int 0])), (q0, .inr (0, [.int 0, .ref (u9.1 0), .ref (u9.1 1), .ref (u9.1 2), .ref (u9.1 3), .ref (u9.1 4), .ref (u9.1 5)])), (u9.1 0, .inl (u9.2 0, 32, .inl (fun _ => 0))), (u9.1 1, .inl (u9.2 1, 32, .inl (fun _ => 0))), (u9.1 2, .inl (u9.2 2, 480, .inl (fun _ => 0))), (u9.1 3, .inl (u9.2 3, 512, .inl (fun _ => 0))), (u9.1 4, .inl (u9.2 4, 512, .inl (fun _ => 0))), (u9.1 5, .inl (u9.2 5, 5, .inl (fun _ => 0))), (q1, .inr (4, [.int 0, .int 0, .ref (u20.1 0), .ref (u20.1 1), .ref (u20.1 2), .ref (u20.1 3), .ref (u20.1 4), .ref (u20.1 5), .ref (u20.1 6), .ref (u20.1 7), .ref (u20.1 8), .ref (u20.1 9)])), (u20.1 0, .inl (u20.2 0, 64, .inl (fun _ => 0))), (u20.1 1, .inl (u20.2 1, 64, .inl (fun _ => 0))), (u20.1 2, .inl (u20.2 2, 512, .inl (fun _ => 0))), (u20.1 3, .inl (u20.2 3, 64, .inl (fun _ => 0))), (u20.1 4, .inl (u20.2 4, 64, .inl (fun _ => 0))), (u20.1 5, .inl (u20.2 5, 64, .inl (fun _ => 0))), (u20.1 6, .inl (u20.2 6, 64, .inl (fun _ => 0))), (u20.1 7, .inl (u20.2 7, 64, .inl (fun _ => 0))), (u20.1 8, .inl (u20.2 8, 64, .inl (fun _ => 0))), (u20.1 9, .inl (u20.2 9, 64, .inl (fun _ => 0))), (q2, .inl (c2, 0, .inl (fun _ => 0)))] := hD
  refine lv_aload_n hx hb dX2_init_33 rfl (lv_at hl 0 rfl) ?_
  refine lv_iconst (v := 0) hx hb dX2_init_34 (by decide) ?_
  refine va_newa (atype := .boolean) (ty := .boolean) (n := 0) (N' := 0) (a0 := (0, .inl (fun _ => 0))) hx hb k_15 rfl hK hP hD hS hA (fun _ => rfl) (by decide) (by decide) (by decide) (Nat.le_of_ble_eq_true rfl) (Nat.le_of_ble_eq_true rfl) dX2_init_35 (fun q3 c3 H hK hP hD hS => ?_)
  have hP : va_P D vwCl [(h0, .inr (2, [.ref q0, .ref q1, .ref q2, .null, .int 0, .int 0])), (q0, .inr (0, [.int 0, .ref (u9.1 0), .ref (u9.1 1), .ref (u9.1 2), .ref (u9.1 3), .ref (u9.1 4), .ref (u9.1 5)])), (u9.1 0, .inl (u9.2 0, 32, .inl (fun _ => 0))), (u9.1 1, .inl (u9.2 1, 32, .inl (fun _ => 0))), (u9.1 2, .inl (u9.2 2, 480, .inl (fun _ => 0))), (u9.1 3, .inl (u9.2 3, 512, .inl (fun _ => 0))), (u9.1 4, .inl (u9.2 4, 512, .inl (fun _ => 0))), (u9.1 5, .inl (u9.2 5, 5, .inl (fun _ => 0))), (q1, .inr (4, [.int 0, .int 0, .ref (u20.1 0), .ref (u20.1 1), .ref (u20.1 2), .ref (u20.1 3), .ref (u20.1 4), .ref (u20.1 5), .ref (u20.1 6), .ref (u20.1 7), .ref (u20.1 8), .ref (u20.1 9)])), (u20.1 0, .inl (u20.2 0, 64, .inl (fun _ => 0))), (u20.1 1, .inl (u20.2 1, 64, .inl (fun _ => 0))), (u20.1 2, .inl (u20.2 2, 512, .inl (fun _ => 0))), (u20.1 3, .inl (u20.2 3, 64, .inl (fun _ => 0))), (u20.1 4, .inl (u20.2 4, 64, .inl (fun _ => 0))), (u20.1 5, .inl (u20.2 5, 64, .inl (fun _ => 0))), (u20.1 6, .inl (u20.2 6, 64, .inl (fun _ => 0))), (u20.1 7, .inl (u20.2 7, 64, .inl (fun _ => 0))), (u20.1 8, .inl (u20.2 8, 64, .inl (fun _ => 0))), (u20.1 9, .inl (u20.2 9, 64, .inl (fun _ => 0))), (q2, .inl (c2, 0, .inl (fun _ => 0))), (q3, .inl (c3, 0, .inl (fun _ => 0)))] H := hP
  have hD : va_D A [(h0, .inr (2, [.ref q0, .ref q1, .ref q2, .null, .int 0, .int 0])), (q0, .inr (0, [.int 0, .ref (u9.1 0), .ref (u9.1 1), .ref (u9.1 2), .ref (u9.1 3), .ref (u9.1 4), .ref (u9.1 5)])), (u9.1 0, .inl (u9.2 0, 32, .inl (fun _ => 0))), (u9.1 1, .inl (u9.2 1, 32, .inl (fun _ => 0))), (u9.1 2, .inl (u9.2 2, 480, .inl (fun _ => 0))), (u9.1 3, .inl (u9.2 3, 512, .inl (fun _ => 0))), (u9.1 4, .inl (u9.2 4, 512, .inl (fun _ => 0))), (u9.1 5, .inl (u9.2 5, 5, .inl (fun _ => 0))), (q1, .inr (4, [.int 0, .int 0, .ref (u20.1 0), .ref (u20.1 1), .ref (u20.1 2), .ref (u20.1 3), .ref (u20.1 4), .ref (u20.1 5), .ref (u20.1 6), .ref (u20.1 7), .ref (u20.1 8), .ref (u20.1 9)])), (u20.1 0, .inl (u20.2 0, 64, .inl (fun _ => 0))), (u20.1 1, .inl (u20.2 1, 64, .inl (fun _ => 0))), (u20.1 2, .inl (u20.2 2, 512, .inl (fun _ => 0))), (u20.1 3, .inl (u20.2 3, 64, .inl (fun _ => 0))), (u20.1 4, .inl (u20.2 4, 64, .inl (fun _ => 0))), (u20.1 5, .inl (u20.2 5, 64, .inl (fun _ => 0))), (u20.1 6, .inl (u20.2 6, 64, .inl (fun _ => 0))), (u20.1 7, .inl (u20.2 7, 64, .inl (fun _ => 0))), (u20.1 8, .inl (u20.2 8, 64, .inl (fun _ => 0))), (u20.1 9, .inl (u20.2 9, 64, .inl (fun _ => 0))), (q2, .inl (c2, 0, .inl (fun _ => 0))), (q3, .inl (c3, 0, .inl (fun _ => 0)))] := hD
  have hK : va_K D vwCl [(u9.2 0, .int), (u9.2 1, .int), (u9.2 2, .int), (u9.2 3, .int), (u9.2 4, .int), (u9.2 5, .int), (u20.2 0, .int), (u20.2 1, .int), (u20.2 2, .int), (u20.2 3, .int), (u20.2 4, .int), (u20.2 5, .int), (u20.2 6, .int), (u20.2 7, .int), (u20.2 8, .int), (u20.2 9, .int), (c2, .byte), (c3, .boolean)] s := hK
  refine W.widen (k := 20) (n := 2680) (by omega) (by omega) ?_
  refine va_put (D := D) (ci := 2) (v := .ref q3) (ty := .array .boolean) (C := RX2) (T := TX2) (N := 6) hx hb hts in_X2 tyX2 tyX2_ok nmX2 hown hK hP hD hS 0 rfl rfl 3 (by decide) k_16 (fun _ h9 => h9) rfl (by decide +kernel) rfl rfl (Nat.le_of_ble_eq_true rfl) dX2_init_37 (fun H locs hP hD hS => ?_)
  have hP : va_P D vwCl [(h0, .inr (2, [.ref q0, .ref q1, .ref q2, .ref q3, .int 0, .int 0])), (q0, .inr (0, [.int 0, .ref (u9.1 0), .ref (u9.1 1), .ref (u9.1 2), .ref (u9.1 3), .ref (u9.1 4), .ref (u9.1 5)])), (u9.1 0, .inl (u9.2 0, 32, .inl (fun _ => 0))), (u9.1 1, .inl (u9.2 1, 32, .inl (fun _ => 0))), (u9.1 2, .inl (u9.2 2, 480, .inl (fun _ => 0))), (u9.1 3, .inl (u9.2 3, 512, .inl (fun _ => 0))), (u9.1 4, .inl (u9.2 4, 512, .inl (fun _ => 0))), (u9.1 5, .inl (u9.2 5, 5, .inl (fun _ => 0))), (q1, .inr (4, [.int 0, .int 0, .ref (u20.1 0), .ref (u20.1 1), .ref (u20.1 2), .ref (u20.1 3), .ref (u20.1 4), .ref (u20.1 5), .ref (u20.1 6), .ref (u20.1 7), .ref (u20.1 8), .ref (u20.1 9)])), (u20.1 0, .inl (u20.2 0, 64, .inl (fun _ => 0))), (u20.1 1, .inl (u20.2 1, 64, .inl (fun _ => 0))), (u20.1 2, .inl (u20.2 2, 512, .inl (fun _ => 0))), (u20.1 3, .inl (u20.2 3, 64, .inl (fun _ => 0))), (u20.1 4, .inl (u20.2 4, 64, .inl (fun _ => 0))), (u20.1 5, .inl (u20.2 5, 64, .inl (fun _ => 0))), (u20.1 6, .inl (u20.2 6, 64, .inl (fun _ => 0))), (u20.1 7, .inl (u20.2 7, 64, .inl (fun _ => 0))), (u20.1 8, .inl (u20.2 8, 64, .inl (fun _ => 0))), (u20.1 9, .inl (u20.2 9, 64, .inl (fun _ => 0))), (q2, .inl (c2, 0, .inl (fun _ => 0))), (q3, .inl (c3, 0, .inl (fun _ => 0)))] H := hP
  have hD : va_D A [(h0, .inr (2, [.ref q0, .ref q1, .ref q2, .ref q3, .int 0, .int 0])), (q0, .inr (0, [.int 0, .ref (u9.1 0), .ref (u9.1 1), .ref (u9.1 2), .ref (u9.1 3), .ref (u9.1 4), .ref (u9.1 5)])), (u9.1 0, .inl (u9.2 0, 32, .inl (fun _ => 0))), (u9.1 1, .inl (u9.2 1, 32, .inl (fun _ => 0))), (u9.1 2, .inl (u9.2 2, 480, .inl (fun _ => 0))), (u9.1 3, .inl (u9.2 3, 512, .inl (fun _ => 0))), (u9.1 4, .inl (u9.2 4, 512, .inl (fun _ => 0))), (u9.1 5, .inl (u9.2 5, 5, .inl (fun _ => 0))), (q1, .inr (4, [.int 0, .int 0, .ref (u20.1 0), .ref (u20.1 1), .ref (u20.1 2), .ref (u20.1 3), .ref (u20.1 4), .ref (u20.1 5), .ref (u20.1 6), .ref (u20.1 7), .ref (u20.1 8), .ref (u20.1 9)])), (u20.1 0, .inl (u20.2 0, 64, .inl (fun _ => 0))), (u20.1 1, .inl (u20.2 1, 64, .inl (fun _ => 0))), (u20.1 2, .inl (u20.2 2, 512, .inl (fun _ => 0))), (u20.1 3, .inl (u20.2 3, 64, .inl (fun _ => 0))), (u20.1 4, .inl (u20.2 4, 64, .inl (fun _ => 0))), (u20.1 5, .inl (u20.2 5, 64, .inl (fun _ => 0))), (u20.1 6, .inl (u20.2 6, 64, .inl (fun _ => 0))), (u20.1 7, .inl (u20.2 7, 64, .inl (fun _ => 0))), (u20.1 8, .inl (u20.2 8, 64, .inl (fun _ => 0))), (u20.1 9, .inl (u20.2 9, 64, .inl (fun _ => 0))), (q2, .inl (c2, 0, .inl (fun _ => 0))), (q3, .inl (c3, 0, .inl (fun _ => 0)))] := hD
  have hP9 := hP.sub (ws' := [(h0, .inr (2, [.ref q0, .ref q1, .ref q2, .ref q3, .int 0, .int 0])), (q0, .inr (0, [.int 0, .ref (u9.1 0), .ref (u9.1 1), .ref (u9.1 2), .ref (u9.1 3), .ref (u9.1 4), .ref (u9.1 5)])), (u9.1 0, .inl (u9.2 0, 32, .inl (fun _ => 0))), (u9.1 1, .inl (u9.2 1, 32, .inl (fun _ => 0))), (u9.1 2, .inl (u9.2 2, 480, .inl (fun _ => 0))), (u9.1 3, .inl (u9.2 3, 512, .inl (fun _ => 0))), (u9.1 4, .inl (u9.2 4, 512, .inl (fun _ => 0))), (u9.1 5, .inl (u9.2 5, 5, .inl (fun _ => 0))), (q1, .inr (4, [.int 0, .int 0, .ref (u20.1 0), .ref (u20.1 1), .ref (u20.1 2), .ref (u20.1 3), .ref (u20.1 4), .ref (u20.1 5), .ref (u20.1 6), .ref (u20.1 7), .ref (u20.1 8), .ref (u20.1 9)])), (u20.1 0, .inl (u20.2 0, 64, .inl (fun _ => 0))), (u20.1 1, .inl (u20.2 1, 64, .inl (fun _ => 0))), (u20.1 2, .inl (u20.2 2, 512, .inl (fun _ => 0))), (u20.1 3, .inl (u20.2 3, 64, .inl (fun _ => 0))), (u20.1 4, .inl (u20.2 4, 64, .inl (fun _ => 0))), (u20.1 5, .inl (u20.2 5, 64, .inl (fun _ => 0))), (u20.1 6, .inl (u20.2 6, 64, .inl (fun _ => 0))), (u20.1 7, .inl (u20.2 7, 64, .inl (fun _ => 0))), (u20.1 8, .inl (u20.2 8, 64, .inl (fun _ => 0))), (u20.1 9, .inl (u20.2 9, 64, .inl (fun _ => 0))), (q2, .inl (c2, 0, .inl (fun _ => 0))), (q3, .inl (c3, 0, .inl (fun _ => 0)))]) [0, 1, 2, 3, 4, 5, 6, 7, 8, 9, 10, 11, 12, 13, 14, 15, 16, 17, 18, 19, 20] rfl
  have hD9 := hD.sub (ws' := [(h0, .inr (2, [.ref q0, .ref q1, .ref q2, .ref q3, .int 0, .int 0])), (q0, .inr (0, [.int 0, .ref (u9.1 0), .ref (u9.1 1), .ref (u9.1 2), .ref (u9.1 3), .ref (u9.1 4), .ref (u9.1 5)])), (u9.1 0, .inl (u9.2 0, 32, .inl (fun _ => 0))), (u9.1 1, .inl (u9.2 1, 32, .inl (fun _ => 0))), (u9.1 2, .inl (u9.2 2, 480, .inl (fun _ => 0))), (u9.1 3, .inl (u9.2 3, 512, .inl (fun _ => 0))), (u9.1 4, .inl (u9.2 4, 512, .inl (fun _ => 0))), (u9.1 5, .inl (u9.2 5, 5, .inl (fun _ => 0))), (q1, .inr (4, [.int 0, .int 0, .ref (u20.1 0), .ref (u20.1 1), .ref (u20.1 2), .ref (u20.1 3), .ref (u20.1 4), .ref (u20.1 5), .ref (u20.1 6), .ref (u20.1 7), .ref (u20.1 8), .ref (u20.1 9)])), (u20.1 0, .inl (u20.2 0, 64, .inl (fun _ => 0))), (u20.1 1, .inl (u20.2 1, 64, .inl (fun _ => 0))), (u20.1 2, .inl (u20.2 2, 512, .inl (fun _ => 0))), (u20.1 3, .inl (u20.2 3, 64, .inl (fun _ => 0))), (u20.1 4, .inl (u20.2 4, 64, .inl (fun _ => 0))), (u20.1 5, .inl (u20.2 5, 64, .inl (fun _ => 0))), (u20.1 6, .inl (u20.2 6, 64, .inl (fun _ => 0))), (u20.1 7, .inl (u20.2 7, 64, .inl (fun _ => 0))), (u20.1 8, .inl (u20.2 8, 64, .inl (fun _ => 0))), (u20.1 9, .inl (u20.2 9, 64, .inl (fun _ => 0))), (q2, .inl (c2, 0, .inl (fun _ => 0))), (q3, .inl (c3, 0, .inl (fun _ => 0)))]) [0, 1, 2, 3, 4, 5, 6, 7, 8, 9, 10, 11, 12, 13, 14, 15, 16, 17, 18, 19, 20] (by decide) rfl
  have hK9 := hK.sub (tys' := [(u9.2 0, .int), (u9.2 1, .int), (u9.2 2, .int), (u9.2 3, .int), (u9.2 4, .int), (u9.2 5, .int), (u20.2 0, .int), (u20.2 1, .int), (u20.2 2, .int), (u20.2 3, .int), (u20.2 4, .int), (u20.2 5, .int), (u20.2 6, .int), (u20.2 7, .int), (u20.2 8, .int), (u20.2 9, .int), (c2, .byte), (c3, .boolean)]) [0, 1, 2, 3, 4, 5, 6, 7, 8, 9, 10, 11, 12, 13, 14, 15, 16, 17] rfl
  exact W.vret hx hb hr (fun t ht hW => ⟨⟨((fun j => if j = 0 then q0 else if j = 1 then u9.1 0 else if j = 2 then u9.1 1 else if j = 3 then u9.1 2 else if j = 4 then u9.1 3 else if j = 5 then u9.1 4 else if j = 6 then u9.1 5 else if j = 7 then q1 else if j = 8 then u20.1 0 else if j = 9 then u20.1 1 else if j = 10 then u20.1 2 else if j = 11 then u20.1 3 else if j = 12 then u20.1 4 else if j = 13 then u20.1 5 else if j = 14 then u20.1 6 else if j = 15 then u20.1 7 else if j = 16 then u20.1 8 else if j = 17 then u20.1 9 else if j = 18 then q2 else if j = 19 then q3 else 0), (fun j => if j = 1 then u9.2 0 else if j = 2 then u9.2 1 else if j = 3 then u9.2 2 else if j = 4 then u9.2 3 else if j = 5 then u9.2 4 else if j = 6 then u9.2 5 else if j = 8 then u20.2 0 else if j = 9 then u20.2 1 else if j = 10 then u20.2 2 else if j = 11 then u20.2 3 else if j = 12 then u20.2 4 else if j = 13 then u20.2 5 else if j = 14 then u20.2 6 else if j = 15 then u20.2 7 else if j = 16 then u20.2 8 else if j = 17 then u20.2 9 else if j = 18 then c2 else if j = 19 then c3 else u9.2 0)), rfl, trivial, by rw [ht]; exact hP9, va_K.moved hW.alike hK9, hD9⟩, hS.F ht⟩) hS.2.2 dX2_init_40

theorem dX1_init_0 : decode cX1_init 0 = .ok (.aload_n 0, 1) := by decide +kernel
theorem dX1_init_1 : decode cX1_init 1 = .ok (.invokespecial 3, 3) := by decide +kernel
theorem dX1_init_4 : decode cX1_init 4 = .ok (.aload_n 0, 1) := by decide +kernel
theorem dX1_init_5 : decode cX1_init 5 = .ok (.iconst 0, 1) := by decide +kernel
theorem dX1_init_6 : decode cX1_init 6 = .ok (.newarray .long, 2) := by decide +kernel
theorem dX1_init_8 : decode cX1_init 8 = .ok (.putfield 9, 3) := by decide +kernel
theorem dX1_init_11 : decode cX1_init 11 = .ok (.aload_n 0, 1) := by decide +kernel
theorem dX1_init_12 : decode cX1_init 12 = .ok (.aload_n 1, 1) := by decide +kernel
theorem dX1_init_13 : decode cX1_init 13 = .ok (.putfield 13, 3) := by decide +kernel
theorem dX1_init_16 : decode cX1_init 16 = .ok (.aload_n 0, 1) := by decide +kernel
theorem dX1_init_17 : decode cX1_init 17 = .ok (.aload_n 2, 1) := by decide +kernel
theorem dX1_init_18 : decode cX1_init 18 = .ok (.putfield 17, 3) := by decide +kernel
theorem dX1_init_21 : decode cX1_init 21 = .ok (.return_, 1) := by decide +kernel
set_option maxHeartbeats 4000000 in
set_option maxRecDepth 100000 in
theorem c_X1_init (l : Launch) (D : va_G) (h0 h1 h2 : Nat) (sz : Nat) : Met l yX1_init wsX1_init { frames := 1, cells := 1, slots := 0, locals := 12 } (va_Pc [.ref h0, .ref h1, .ref h2] (fun U => U.heap.size = sz ∧ va_P D vwCl [(h0, .inr (1, [.null, .null, .null, .int 0, .int 0, .int 0, .int 0, .int 0, .int 0, .int 0, .int 0, .int 0, .int 0, .int 0, .int 0, .int 0]))] U.heap ∧ va_K D vwCl [] U ∧ va_D (fun _ => True) [(h0, .inr (1, [.null, .null, .null, .int 0, .int 0, .int 0, .int 0, .int 0, .int 0, .int 0, .int 0, .int 0, .int 0, .int 0, .int 0, .int 0]))] ∧ ∀ w ∈ sm_nest, va_Nw w U)) (va_Qv (fun _ : sm_A => True) (fun u t => va_P D vwCl [(h0, .inr (1, [.ref h1, .ref h2, .ref (u.1 0), .int 0, .int 0, .int 0, .int 0, .int 0, .int 0, .int 0, .int 0, .int 0, .int 0, .int 0, .int 0, .int 0])), (u.1 0, .inl (u.2 0, 0, .inr (.inl (fun _ => 0))))] t.heap ∧ va_K D vwCl [(u.2 0, .long)] t ∧ va_D (va_A [(h0, .inr (1, [.null, .null, .null, .int 0, .int 0, .int 0, .int 0, .int 0, .int 0, .int 0, .int 0, .int 0, .int 0, .int 0, .int 0, .int 0]))] sz) [(h0, .inr (1, [.ref h1, .ref h2, .ref (u.1 0), .int 0, .int 0, .int 0, .int 0, .int 0, .int 0, .int 0, .int 0, .int 0, .int 0, .int 0, .int 0, .int 0])), (u.1 0, .inl (u.2 0, 0, .inr (.inl (fun _ => 0))))]) (va_A [(h0, .inr (1, [.null, .null, .null, .int 0, .int 0, .int 0, .int 0, .int 0, .int 0, .int 0, .int 0, .int 0, .int 0, .int 0, .int 0, .int 0]))] sz)) 1 0 (va_A [(h0, .inr (1, [.null, .null, .null, .int 0, .int 0, .int 0, .int 0, .int 0, .int 0, .int 0, .int 0, .int 0, .int 0, .int 0, .int 0, .int 0]))] sz) := by
  refine Met.ofW (cc := cX1_init) (maxL := 3) (ret := none) (by decide) rfl ?_
  intro p e s m args below meth c s₁ B hml hv
  obtain ⟨rfl, hsz, hP, hK, hD0, hN⟩ := hv
  have hx := B.exec
  have hb := B.bytes
  have hr := B.returns
  have hts := atoms_spec (ws := wsX1_init) B.pre
  have hown : s.vm.findClass RX1 = some m.cls := findClass_of_methodNamed B.named
  have hlocks := B.notSynchronized
  have hin : meth.name = "<init>" := (name_of_methodNamed B.named B.method).1
  subst hsz
  have hD := hD0.self (sz := s.heap.size)
  generalize hAe : va_A [(h0, .inr (1, [.null, .null, .null, .int 0, .int 0, .int 0, .int 0, .int 0, .int 0, .int 0, .int 0, .int 0, .int 0, .int 0, .int 0, .int 0]))] s.heap.size = A at hD ⊢
  have hA : ∀ q : Nat, s.heap.size ≤ q → A q := fun q h => by rw [← hAe]; exact Or.inr h
  have hS : va_S A s.heap s.heap [] := va_S.rf
  have in_X1 : ∀ w ∈ wsX10, w ∈ wsX1_init := by decide +kernel
  have k_0 := hts (.methodLink RX1 3 objectInit) (by decide +kernel)
  have k_1 := hts (.instanceMethod objectInit) (by decide +kernel)
  have k_2 := hts (.code objectInit ⟨#[0xb1]⟩ 1 none) (by decide +kernel)
  have k_3 := hts (.arrayClass .long) (by decide +kernel)
  have k_4 := hts (.fieldLink RX1 9 "SteadyMachine$Heap" "cells" "[J") (by decide +kernel)
  have k_5 := hts (.fieldLink RX1 13 "SteadyMachine$Heap" "classes" "LSteadyMachine$Classes;") (by decide +kernel)
  have k_6 := hts (.fieldLink RX1 17 "SteadyMachine$Heap" "methods" "LSteadyMachine$Methods;") (by decide +kernel)
  have hl := lv_entry ([.ref h0, .ref h1, .ref h2]) (n := 3) (Nat.le_of_ble_eq_true rfl)
  rw [lg_entry_eq]
  generalize (lg_sl ([.ref h0, .ref h1, .ref h2]) ++ List.replicate (3 - (lg_sl ([.ref h0, .ref h1, .ref h2])).length) Slot.unset).toArray = ls at hl ⊢
  have hl : lv_has ls 3 [(0, .ref h0), (1, .ref h1), (2, .ref h2)] := hl
  refine lv_aload_n hx hb dX1_init_0 rfl (lv_at hl 0 rfl) ?_
  refine W.objInit hx hb hown k_0 k_1 k_2 rfl (by rw [hml]; exact hl.1) rfl dX1_init_1 (Nat.le_of_ble_eq_true rfl) (Nat.le_of_ble_eq_true rfl) ?_
  refine W.eq (g2 := F0 m 4 ls []) rfl ?_
  refine lv_aload_n hx hb dX1_init_4 rfl (lv_at hl 0 rfl) ?_
  refine lv_iconst (v := 0) hx hb dX1_init_5 (by decide) ?_
  refine va_newa (atype := .long) (ty := .long) (n := 0) (N' := 0) (a0 := (0, .inr (.inl (fun _ => 0)))) hx hb k_3 rfl hK hP hD hS hA (fun _ => rfl) (by decide) (by decide) (by decide) (Nat.le_of_ble_eq_true rfl) (Nat.le_of_ble_eq_true rfl) dX1_init_6 (fun q0 c0 H hK hP hD hS => ?_)
  have hP : va_P D vwCl [(h0, .inr (1, [.null, .null, .null, .int 0, .int 0, .int 0, .int 0, .int 0, .int 0, .int 0, .int 0, .int 0, .int 0, .int 0, .int 0, .int 0])), (q0, .inl (c0, 0, .inr (.inl (fun _ => 0))))] H := hP
  have hD : va_D A [(h0, .inr (1, [.null, .null, .null, .int 0, .int 0, .int 0, .int 0, .int 0, .int 0, .int 0, .int 0, .int 0, .int 0, .int 0, .int 0, .int 0])), (q0, .inl (c0, 0, .inr (.inl (fun _ => 0))))] := hD
  have hK : va_K D vwCl [(c0, .long)] s := hK
  refine W.widen (k := 1) (n := 0) (by omega) (by omega) ?_
  refine va_put (D := D) (ci := 1) (v := .ref q0) (ty := .array .long) (C := RX1) (T := TX1) (N := 16) hx hb hts in_X1 tyX1 tyX1_ok nmX1 hown hK hP hD hS 0 rfl rfl 2 (by decide) k_4 (fun _ h9 => h9) rfl (by decide +kernel) rfl rfl (Nat.le_of_ble_eq_true rfl) dX1_init_8 (fun H locs hP hD hS => ?_)
  have hP : va_P D vwCl [(h0, .inr (1, [.null, .null, .ref q0, .int 0, .int 0, .int 0, .int 0, .int 0, .int 0, .int 0, .int 0, .int 0, .int 0, .int 0, .int 0, .int 0])), (q0, .inl (c0, 0, .inr (.inl (fun _ => 0))))] H := hP
  have hD : va_D A [(h0, .inr (1, [.null, .null, .ref q0, .int 0, .int 0, .int 0, .int 0, .int 0, .int 0, .int 0, .int 0, .int 0, .int 0, .int 0, .int 0, .int 0])), (q0, .inl (c0, 0, .inr (.inl (fun _ => 0))))] := hD
  refine lv_aload_n hx hb dX1_init_11 rfl (lv_at hl 0 rfl) ?_
  refine lv_aload_n hx hb dX1_init_12 rfl (lv_at hl 1 rfl) ?_
  refine va_putF (D := D) (ci := 1) (v := .ref h1) (ty := .object "SteadyMachine$Classes") (C := RX1) (T := TX1) (N := 16) hx hb hts in_X1 tyX1 tyX1_ok nmX1 hown hK hP hD hS 0 rfl rfl 0 (by decide) k_5 (fun _ h9 => h9) rfl hin rfl (by decide +kernel) rfl rfl (Nat.le_of_ble_eq_true rfl) dX1_init_13 (fun H locs hP hD hS => ?_)
  have hP : va_P D vwCl [(h0, .inr (1, [.ref h1, .null, .ref q0, .int 0, .int 0, .int 0, .int 0, .int 0, .int 0, .int 0, .int 0, .int 0, .int 0, .int 0, .int 0, .int 0])), (q0, .inl (c0, 0, .inr (.inl (fun _ => 0))))] H := hP
  have hD : va_D A [(h0, .inr (1, [.ref h1, .null, .ref q0, .int 0, .int 0, .int 0, .int 0, .int 0, .int 0, .int 0, .int 0, .int 0, .int 0, .int 0, .int 0, .int 0])), (q0, .inl (c0, 0, .inr (.inl (fun _ => 0))))] := hD
  refine lv_aload_n hx hb dX1_init_16 rfl (lv_at hl 0 rfl) ?_
  refine lv_aload_n hx hb dX1_init_17 rfl (lv_at hl 2 rfl) ?_
  refine va_putF (D := D) (ci := 1) (v := .ref h2) (ty := .object "SteadyMachine$Methods") (C := RX1) (T := TX1) (N := 16) hx hb hts in_X1 tyX1 tyX1_ok nmX1 hown hK hP hD hS 0 rfl rfl 1 (by decide) k_6 (fun _ h9 => h9) rfl hin rfl (by decide +kernel) rfl rfl (Nat.le_of_ble_eq_true rfl) dX1_init_18 (fun H locs hP hD hS => ?_)
  have hP : va_P D vwCl [(h0, .inr (1, [.ref h1, .ref h2, .ref q0, .int 0, .int 0, .int 0, .int 0, .int 0, .int 0, .int 0, .int 0, .int 0, .int 0, .int 0, .int 0, .int 0])), (q0, .inl (c0, 0, .inr (.inl (fun _ => 0))))] H := hP
  have hD : va_D A [(h0, .inr (1, [.ref h1, .ref h2, .ref q0, .int 0, .int 0, .int 0, .int 0, .int 0, .int 0, .int 0, .int 0, .int 0, .int 0, .int 0, .int 0, .int 0])), (q0, .inl (c0, 0, .inr (.inl (fun _ => 0))))] := hD
  have hP9 := hP.sub (ws' := [(h0, .inr (1, [.ref h1, .ref h2, .ref q0, .int 0, .int 0, .int 0, .int 0, .int 0, .int 0, .int 0, .int 0, .int 0, .int 0, .int 0, .int 0, .int 0])), (q0, .inl (c0, 0, .inr (.inl (fun _ => 0))))]) [0, 1] rfl
  have hD9 := hD.sub (ws' := [(h0, .inr (1, [.ref h1, .ref h2, .ref q0, .int 0, .int 0, .int 0, .int 0, .int 0, .int 0, .int 0, .int 0, .int 0, .int 0, .int 0, .int 0, .int 0])), (q0, .inl (c0, 0, .inr (.inl (fun _ => 0))))]) [0, 1] (by decide) rfl
  have hK9 := hK.sub (tys' := [(c0, .long)]) [0] rfl
  exact W.vret hx hb hr (fun t ht hW => ⟨⟨((fun j => if j = 0 then q0 else 0), (fun j => if j = 0 then c0 else c0)), rfl, trivial, by rw [ht]; exact hP9, va_K.moved hW.alike hK9, hD9⟩, hS.F ht⟩) hS.2.2 dX1_init_21

theorem dX6_init_0 : decode cX6_init 0 = .ok (.aload_n 0, 1) := by decide +kernel
theorem dX6_init_1 : decode cX6_init 1 = .ok (.invokespecial 3, 3) := by decide +kernel
theorem dX6_init_4 : decode cX6_init 4 = .ok (.aload_n 0, 1) := by decide +kernel
theorem dX6_init_5 : decode cX6_init 5 = .ok (.aload_n 1, 1) := by decide +kernel
theorem dX6_init_6 : decode cX6_init 6 = .ok (.putfield 9, 3) := by decide +kernel
theorem dX6_init_9 : decode cX6_init 9 = .ok (.aload_n 0, 1) := by decide +kernel
theorem dX6_init_10 : decode cX6_init 10 = .ok (.aload_n 1, 1) := by decide +kernel
theorem dX6_init_11 : decode cX6_init 11 = .ok (.getfield 15, 3) := by decide +kernel
theorem dX6_init_14 : decode cX6_init 14 = .ok (.putfield 21, 3) := by decide +kernel
theorem dX6_init_17 : decode cX6_init 17 = .ok (.aload_n 0, 1) := by decide +kernel
theorem dX6_init_18 : decode cX6_init 18 = .ok (.aload_n 1, 1) := by decide +kernel
theorem dX6_init_19 : decode cX6_init 19 = .ok (.getfield 22, 3) := by decide +kernel
theorem dX6_init_22 : decode cX6_init 22 = .ok (.putfield 26, 3) := by decide +kernel
theorem dX6_init_25 : decode cX6_init 25 = .ok (.return_, 1) := by decide +kernel
set_option maxHeartbeats 4000000 in
set_option maxRecDepth 100000 in
theorem c_X6_init (l : Launch) (D : va_G) (h0 h1 : Nat) (z : Nat → Int32) (y : Nat → Nat) (sz : Nat) : Met l yX6_init wsX6_init { frames := 1, cells := 0, slots := 0, locals := 12 } (va_Pc [.ref h0, .ref h1] (fun U => U.heap.size = sz ∧ va_P D vwCl [(h0, .inr (6, [.null, .null, .null, .int 0, .int 0])), (h1, .inr (2, [.ref (y 0), .ref (y 1), .ref (y 2), .ref (y 3), .int (z 4), .int (z 5)]))] U.heap ∧ va_K D vwCl [] U ∧ va_D (fun _ => True) [(h0, .inr (6, [.null, .null, .null, .int 0, .int 0])), (h1, .inr (2, [.ref (y 0), .ref (y 1), .ref (y 2), .ref (y 3), .int (z 4), .int (z 5)]))] ∧ ∀ w ∈ sm_nest, va_Nw w U)) (va_Qv (fun _ : sm_A => True) (fun u t => va_P D vwCl [(h0, .inr (6, [.ref h1, .ref (y 0), .ref (y 1), .int 0, .int 0])), (h1, .inr (2, [.ref (y 0), .ref (y 1), .ref (y 2), .ref (y 3), .int (z 4), .int (z 5)]))] t.heap ∧ va_K D vwCl [] t ∧ va_D (va_A [(h0, .inr (6, [.null, .null, .null, .int 0, .int 0])), (h1, .inr (2, [.ref (y 0), .ref (y 1), .ref (y 2), .ref (y 3), .int (z 4), .int (z 5)]))] sz) [(h0, .inr (6, [.ref h1, .ref (y 0), .ref (y 1), .int 0, .int 0])), (h1, .inr (2, [.ref (y 0), .ref (y 1), .ref (y 2), .ref (y 3), .int (z 4), .int (z 5)]))]) (va_A [(h0, .inr (6, [.null, .null, .null, .int 0, .int 0])), (h1, .inr (2, [.ref (y 0), .ref (y 1), .ref (y 2), .ref (y 3), .int (z 4), .int (z 5)]))] sz)) 0 0 (va_A [(h0, .inr (6, [.null, .null, .null, .int 0, .int 0])), (h1, .inr (2, [.ref (y 0), .ref (y 1), .ref (y 2), .ref (y 3), .int (z 4), .int (z 5)]))] sz) := by
  refine Met.ofW (cc := cX6_init) (maxL := 2) (ret := none) (by decide) rfl ?_
  intro p e s m args below meth c s₁ B hml hv
  obtain ⟨rfl, hsz, hP, hK, hD0, hN⟩ := hv
  have hx := B.exec
  have hb := B.bytes
  have hr := B.returns
  have hts := atoms_spec (ws := wsX6_init) B.pre
  have hown : s.vm.findClass RX6 = some m.cls := findClass_of_methodNamed B.named
  have hlocks := B.notSynchronized
  have hin : meth.name = "<init>" := (name_of_methodNamed B.named B.method).1
  subst hsz
  have hD := hD0.self (sz := s.heap.size)
  generalize hAe : va_A [(h0, .inr (6, [.null, .null, .null, .int 0, .int 0])), (h1, .inr (2, [.ref (y 0), .ref (y 1), .ref (y 2), .ref (y 3), .int (z 4), .int (z 5)]))] s.heap.size = A at hD ⊢
  have hA : ∀ q : Nat, s.heap.size ≤ q → A q := fun q h => by rw [← hAe]; exact Or.inr h
  have hS : va_S A s.heap s.heap [] := va_S.rf
  have in_X2 : ∀ w ∈ wsX20, w ∈ wsX6_init := by decide +kernel
  have in_X6 : ∀ w ∈ wsX60, w ∈ wsX6_init := by decide +kernel
  have k_0 := hts (.methodLink RX6 3 objectInit) (by decide +kernel)
  have k_1 := hts (.instanceMethod objectInit) (by decide +kernel)
  have k_2 := hts (.code objectInit ⟨#[0xb1]⟩ 1 none) (by decide +kernel)
  have k_3 := hts (.fieldLink RX6 9 "SteadyMachine$Reader" "image" "LSteadyMachine$Image;") (by decide +kernel)
  have k_4 := hts (.fieldLink RX6 15 "SteadyMachine$Image" "classes" "LSteadyMachine$Classes;") (by decide +kernel)
  have k_5 := hts (.fieldLink RX6 21 "SteadyMachine$Reader" "classes" "LSteadyMachine$Classes;") (by decide +kernel)
  have k_6 := hts (.fieldLink RX6 22 "SteadyMachine$Image" "methods" "LSteadyMachine$Methods;") (by decide +kernel)
  have k_7 := hts (.fieldLink RX6 26 "SteadyMachine$Reader" "methods" "LSteadyMachine$Methods;") (by decide +kernel)
  have hl := lv_entry ([.ref h0, .ref h1]) (n := 2) (Nat.le_of_ble_eq_true rfl)
  rw [lg_entry_eq]
  generalize (lg_sl ([.ref h0, .ref h1]) ++ List.replicate (2 - (lg_sl ([.ref h0, .ref h1])).length) Slot.unset).toArray = ls at hl ⊢
  have hl : lv_has ls 2 [(0, .ref h0), (1, .ref h1)] := hl
  refine lv_aload_n hx hb dX6_init_0 rfl (lv_at hl 0 rfl) ?_
  refine W.objInit hx hb hown k_0 k_1 k_2 rfl (by rw [hml]; exact hl.1) rfl dX6_init_1 (Nat.le_of_ble_eq_true rfl) (Nat.le_of_ble_eq_true rfl) ?_
  refine W.eq (g2 := F0 m 4 ls []) rfl ?_
  refine lv_aload_n hx hb dX6_init_4 rfl (lv_at hl 0 rfl) ?_
  refine lv_aload_n hx hb dX6_init_5 rfl (lv_at hl 1 rfl) ?_
  refine va_putF (D := D) (ci := 6) (v := .ref h1) (ty := .object "SteadyMachine$Image") (C := RX6) (T := TX6) (N := 5) hx hb hts in_X6 tyX6 tyX6_ok nmX6 hown hK hP hD hS 0 rfl rfl 0 (by decide) k_3 (fun _ h9 => h9) rfl hin rfl (by decide +kernel) rfl rfl (Nat.le_of_ble_eq_true rfl) dX6_init_6 (fun H locs hP hD hS => ?_)
  have hP : va_P D vwCl [(h0, .inr (6, [.ref h1, .null, .null, .int 0, .int 0])), (h1, .inr (2, [.ref (y 0), .ref (y 1), .ref (y 2), .ref (y 3), .int (z 4), .int (z 5)]))] H := hP
  have hD : va_D A [(h0, .inr (6, [.ref h1, .null, .null, .int 0, .int 0])), (h1, .inr (2, [.ref (y 0), .ref (y 1), .ref (y 2), .ref (y 3), .int (z 4), .int (z 5)]))] := hD
  refine lv_aload_n hx hb dX6_init_9 rfl (lv_at hl 0 rfl) ?_
  refine lv_aload_n hx hb dX6_init_10 rfl (lv_at hl 1 rfl) ?_
  refine va_get (D := D) (ci := 2) (v := .ref (y 0)) (C := RX2) (T := TX2) (N := 6) hx hb hts in_X2 hown hK hP 1 rfl rfl 0 (by decide) k_4 (fun _ h9 => h9) rfl dX6_init_11 ?_
  refine va_putF (D := D) (ci := 6) (v := .ref (y 0)) (ty := .object "SteadyMachine$Classes") (C := RX6) (T := TX6) (N := 5) hx hb hts in_X6 tyX6 tyX6_ok nmX6 hown hK hP hD hS 0 rfl rfl 1 (by decide) k_5 (fun _ h9 => h9) rfl hin rfl (by decide +kernel) rfl rfl (Nat.le_of_ble_eq_true rfl) dX6_init_14 (fun H locs hP hD hS => ?_)
  have hP : va_P D vwCl [(h0, .inr (6, [.ref h1, .ref (y 0), .null, .int 0, .int 0])), (h1, .inr (2, [.ref (y 0), .ref (y 1), .ref (y 2), .ref (y 3), .int (z 4), .int (z 5)]))] H := hP
  have hD : va_D A [(h0, .inr (6, [.ref h1, .ref (y 0), .null, .int 0, .int 0])), (h1, .inr (2, [.ref (y 0), .ref (y 1), .ref (y 2), .ref (y 3), .int (z 4), .int (z 5)]))] := hD
  refine lv_aload_n hx hb dX6_init_17 rfl (lv_at hl 0 rfl) ?_
  refine lv_aload_n hx hb dX6_init_18 rfl (lv_at hl 1 rfl) ?_
  refine va_get (D := D) (ci := 2) (v := .ref (y 1)) (C := RX2) (T := TX2) (N := 6) hx hb hts in_X2 hown hK hP 1 rfl rfl 1 (by decide) k_6 (fun _ h9 => h9) rfl dX6_init_19 ?_
  refine va_putF (D := D) (ci := 6) (v := .ref (y 1)) (ty := .object "SteadyMachine$Methods") (C := RX6) (T := TX6) (N := 5) hx hb hts in_X6 tyX6 tyX6_ok nmX6 hown hK hP hD hS 0 rfl rfl 2 (by decide) k_7 (fun _ h9 => h9) rfl hin rfl (by decide +kernel) rfl rfl (Nat.le_of_ble_eq_true rfl) dX6_init_22 (fun H locs hP hD hS => ?_)
  have hP : va_P D vwCl [(h0, .inr (6, [.ref h1, .ref (y 0), .ref (y 1), .int 0, .int 0])), (h1, .inr (2, [.ref (y 0), .ref (y 1), .ref (y 2), .ref (y 3), .int (z 4), .int (z 5)]))] H := hP
  have hD : va_D A [(h0, .inr (6, [.ref h1, .ref (y 0), .ref (y 1), .int 0, .int 0])), (h1, .inr (2, [.ref (y 0), .ref (y 1), .ref (y 2), .ref (y 3), .int (z 4), .int (z 5)]))] := hD
  have hP9 := hP.sub (ws' := [(h0, .inr (6, [.ref h1, .ref (y 0), .ref (y 1), .int 0, .int 0])), (h1, .inr (2, [.ref (y 0), .ref (y 1), .ref (y 2), .ref (y 3), .int (z 4), .int (z 5)]))]) [0, 1] rfl
  have hD9 := hD.sub (ws' := [(h0, .inr (6, [.ref h1, .ref (y 0), .ref (y 1), .int 0, .int 0])), (h1, .inr (2, [.ref (y 0), .ref (y 1), .ref (y 2), .ref (y 3), .int (z 4), .int (z 5)]))]) [0, 1] (by decide) rfl
  have hK9 := hK.sub (tys' := []) [] rfl
  exact W.vret hx hb hr (fun t ht hW => ⟨⟨((fun j => 0), (fun _ => D.1 0)), rfl, trivial, by rw [ht]; exact hP9, va_K.moved hW.alike hK9, hD9⟩, hS.F ht⟩) hS.2.2 dX6_init_25

theorem dX3_init_0 : decode cX3_init 0 = .ok (.aload_n 0, 1) := by decide +kernel
theorem dX3_init_1 : decode cX3_init 1 = .ok (.invokespecial 3, 3) := by decide +kernel
theorem dX3_init_4 : decode cX3_init 4 = .ok (.aload_n 0, 1) := by decide +kernel
theorem dX3_init_5 : decode cX3_init 5 = .ok (.aload_n 1, 1) := by decide +kernel
theorem dX3_init_6 : decode cX3_init 6 = .ok (.putfield 9, 3) := by decide +kernel
theorem dX3_init_9 : decode cX3_init 9 = .ok (.aload_n 0, 1) := by decide +kernel
theorem dX3_init_10 : decode cX3_init 10 = .ok (.aload_n 1, 1) := by decide +kernel
theorem dX3_init_11 : decode cX3_init 11 = .ok (.getfield 15, 3) := by decide +kernel
theorem dX3_init_14 : decode cX3_init 14 = .ok (.putfield 21, 3) := by decide +kernel
theorem dX3_init_17 : decode cX3_init 17 = .ok (.aload_n 0, 1) := by decide +kernel
theorem dX3_init_18 : decode cX3_init 18 = .ok (.aload_n 1, 1) := by decide +kernel
theorem dX3_init_19 : decode cX3_init 19 = .ok (.getfield 22, 3) := by decide +kernel
theorem dX3_init_22 : decode cX3_init 22 = .ok (.putfield 26, 3) := by decide +kernel
theorem dX3_init_25 : decode cX3_init 25 = .ok (.return_, 1) := by decide +kernel
set_option maxHeartbeats 4000000 in
set_option maxRecDepth 100000 in
theorem c_X3_init (l : Launch) (D : va_G) (h0 h1 : Nat) (z : Nat → Int32) (y : Nat → Nat) (sz : Nat) : Met l yX3_init wsX3_init { frames := 1, cells := 0, slots := 0, locals := 12 } (va_Pc [.ref h0, .ref h1] (fun U => U.heap.size = sz ∧ va_P D vwCl [(h0, .inr (3, [.null, .null, .null])), (h1, .inr (2, [.ref (y 0), .ref (y 1), .ref (y 2), .ref (y 3), .int (z 4), .int (z 5)]))] U.heap ∧ va_K D vwCl [] U ∧ va_D (fun _ => True) [(h0, .inr (3, [.null, .null, .null])), (h1, .inr (2, [.ref (y 0), .ref (y 1), .ref (y 2), .ref (y 3), .int (z 4), .int (z 5)]))] ∧ ∀ w ∈ sm_nest, va_Nw w U)) (va_Qv (fun _ : sm_A => True) (fun u t => va_P D vwCl [(h0, .inr (3, [.ref h1, .ref (y 0), .ref (y 1)])), (h1, .inr (2, [.ref (y 0), .ref (y 1), .ref (y 2), .ref (y 3), .int (z 4), .int (z 5)]))] t.heap ∧ va_K D vwCl [] t ∧ va_D (va_A [(h0, .inr (3, [.null, .null, .null])), (h1, .inr (2, [.ref (y 0), .ref (y 1), .ref (y 2), .ref (y 3), .int (z 4), .int (z 5)]))] sz) [(h0, .inr (3, [.ref h1, .ref (y 0), .ref (y 1)])), (h1, .inr (2, [.ref (y 0), .ref (y 1), .ref (y 2), .ref (y 3), .int (z 4), .int (z 5)]))]) (va_A [(h0, .inr (3, [.null, .null, .null])), (h1, .inr (2, [.ref (y 0), .ref (y 1), .ref (y 2), .ref (y 3), .int (z 4), .int (z 5)]))] sz)) 0 0 (va_A [(h0, .inr (3, [.null, .null, .null])), (h1, .inr (2, [.ref (y 0), .ref (y 1), .ref (y 2), .ref (y 3), .int (z 4), .int (z 5)]))] sz) := by
  refine Met.ofW (cc := cX3_init) (maxL := 2) (ret := none) (by decide) rfl ?_
  intro p e s m args below meth c s₁ B hml hv
  obtain ⟨rfl, hsz, hP, hK, hD0, hN⟩ := hv
  have hx := B.exec
  have hb := B.bytes
  have hr := B.returns
  have hts := atoms_spec (ws := wsX3_init) B.pre
  have hown : s.vm.findClass RX3 = some m.cls := findClass_of_methodNamed B.named
  have hlocks := B.notSynchronized
  have hin : meth.name = "<init>" := (name_of_methodNamed B.named B.method).1
  subst hsz
  have hD := hD0.self (sz := s.heap.size)
  generalize hAe : va_A [(h0, .inr (3, [.null, .null, .null])), (h1, .inr (2, [.ref (y 0), .ref (y 1), .ref (y 2), .ref (y 3), .int (z 4), .int (z 5)]))] s.heap.size = A at hD ⊢
  have hA : ∀ q : Nat, s.heap.size ≤ q → A q := fun q h => by rw [← hAe]; exact Or.inr h
  have hS : va_S A s.heap s.heap [] := va_S.rf
  have in_X2 : ∀ w ∈ wsX20, w ∈ wsX3_init := by decide +kernel
  have in_X3 : ∀ w ∈ wsX30, w ∈ wsX3_init := by decide +kernel
  have k_0 := hts (.methodLink RX3 3 objectInit) (by decide +kernel)
  have k_1 := hts (.instanceMethod objectInit) (by decide +kernel)
  have k_2 := hts (.code objectInit ⟨#[0xb1]⟩ 1 none) (by decide +kernel)
  have k_3 := hts (.fieldLink RX3 9 "SteadyMachine$Linker" "image" "LSteadyMachine$Image;") (by decide +kernel)
  have k_4 := hts (.fieldLink RX3 15 "SteadyMachine$Image" "classes" "LSteadyMachine$Classes;") (by decide +kernel)
  have k_5 := hts (.fieldLink RX3 21 "SteadyMachine$Linker" "classes" "LSteadyMachine$Classes;") (by decide +kernel)
  have k_6 := hts (.fieldLink RX3 22 "SteadyMachine$Image" "methods" "LSteadyMachine$Methods;") (by decide +kernel)
  have k_7 := hts (.fieldLink RX3 26 "SteadyMachine$Linker" "methods" "LSteadyMachine$Methods;") (by decide +kernel)
  have hl := lv_entry ([.ref h0, .ref h1]) (n := 2) (Nat.le_of_ble_eq_true rfl)
  rw [lg_entry_eq]
  generalize (lg_sl ([.ref h0, .ref h1]) ++ List.replicate (2 - (lg_sl ([.ref h0, .ref h1])).length) Slot.unset).toArray = ls at hl ⊢
  have hl : lv_has ls 2 [(0, .ref h0), (1, .ref h1)] := hl
  refine lv_aload_n hx hb dX3_init_0 rfl (lv_at hl 0 rfl) ?_
  refine W.objInit hx hb hown k_0 k_1 k_2 rfl (by rw [hml]; exact hl.1) rfl dX3_init_1 (Nat.le_of_ble_eq_true rfl) (Nat.le_of_ble_eq_true rfl) ?_
  refine W.eq (g2 := F0 m 4 ls []) rfl ?_
  refine lv_aload_n hx hb dX3_init_4 rfl (lv_at hl 0 rfl) ?_
  refine lv_aload_n hx hb dX3_init_5 rfl (lv_at hl 1 rfl) ?_
  refine va_putF (D := D) (ci := 3) (v := .ref h1) (ty := .object "SteadyMachine$Image") (C := RX3) (T := TX3) (N := 3) hx hb hts in_X3 tyX3 tyX3_ok nmX3 hown hK hP hD hS 0 rfl rfl 0 (by decide) k_3 (fun _ h9 => h9) rfl hin rfl (by decide +kernel) rfl rfl (Nat.le_of_ble_eq_true rfl) dX3_init_6 (fun H locs hP hD hS => ?_)
  have hP : va_P D vwCl [(h0, .inr (3, [.ref h1, .null, .null])), (h1, .inr (2, [.ref (y 0), .ref (y 1), .ref (y 2), .ref (y 3), .int (z 4), .int (z 5)]))] H := hP
  have hD : va_D A [(h0, .inr (3, [.ref h1, .null, .null])), (h1, .inr (2, [.ref (y 0), .ref (y 1), .ref (y 2), .ref (y 3), .int (z 4), .int (z 5)]))] := hD
  refine lv_aload_n hx hb dX3_init_9 rfl (lv_at hl 0 rfl) ?_
  refine lv_aload_n hx hb dX3_init_10 rfl (lv_at hl 1 rfl) ?_
  refine va_get (D := D) (ci := 2) (v := .ref (y 0)) (C := RX2) (T := TX2) (N := 6) hx hb hts in_X2 hown hK hP 1 rfl rfl 0 (by decide) k_4 (fun _ h9 => h9) rfl dX3_init_11 ?_
  refine va_putF (D := D) (ci := 3) (v := .ref (y 0)) (ty := .object "SteadyMachine$Classes") (C := RX3) (T := TX3) (N := 3) hx hb hts in_X3 tyX3 tyX3_ok nmX3 hown hK hP hD hS 0 rfl rfl 1 (by decide) k_5 (fun _ h9 => h9) rfl hin rfl (by decide +kernel) rfl rfl (Nat.le_of_ble_eq_true rfl) dX3_init_14 (fun H locs hP hD hS => ?_)
  have hP : va_P D vwCl [(h0, .inr (3, [.ref h1, .ref (y 0), .null])), (h1, .inr (2, [.ref (y 0), .ref (y 1), .ref (y 2), .ref (y 3), .int (z 4), .int (z 5)]))] H := hP
  have hD : va_D A [(h0, .inr (3, [.ref h1, .ref (y 0), .null])), (h1, .inr (2, [.ref (y 0), .ref (y 1), .ref (y 2), .ref (y 3), .int (z 4), .int (z 5)]))] := hD
  refine lv_aload_n hx hb dX3_init_17 rfl (lv_at hl 0 rfl) ?_
  refine lv_aload_n hx hb dX3_init_18 rfl (lv_at hl 1 rfl) ?_
  refine va_get (D := D) (ci := 2) (v := .ref (y 1)) (C := RX2) (T := TX2) (N := 6) hx hb hts in_X2 hown hK hP 1 rfl rfl 1 (by decide) k_6 (fun _ h9 => h9) rfl dX3_init_19 ?_
  refine va_putF (D := D) (ci := 3) (v := .ref (y 1)) (ty := .object "SteadyMachine$Methods") (C := RX3) (T := TX3) (N := 3) hx hb hts in_X3 tyX3 tyX3_ok nmX3 hown hK hP hD hS 0 rfl rfl 2 (by decide) k_7 (fun _ h9 => h9) rfl hin rfl (by decide +kernel) rfl rfl (Nat.le_of_ble_eq_true rfl) dX3_init_22 (fun H locs hP hD hS => ?_)
  have hP : va_P D vwCl [(h0, .inr (3, [.ref h1, .ref (y 0), .ref (y 1)])), (h1, .inr (2, [.ref (y 0), .ref (y 1), .ref (y 2), .ref (y 3), .int (z 4), .int (z 5)]))] H := hP
  have hD : va_D A [(h0, .inr (3, [.ref h1, .ref (y 0), .ref (y 1)])), (h1, .inr (2, [.ref (y 0), .ref (y 1), .ref (y 2), .ref (y 3), .int (z 4), .int (z 5)]))] := hD
  have hP9 := hP.sub (ws' := [(h0, .inr (3, [.ref h1, .ref (y 0), .ref (y 1)])), (h1, .inr (2, [.ref (y 0), .ref (y 1), .ref (y 2), .ref (y 3), .int (z 4), .int (z 5)]))]) [0, 1] rfl
  have hD9 := hD.sub (ws' := [(h0, .inr (3, [.ref h1, .ref (y 0), .ref (y 1)])), (h1, .inr (2, [.ref (y 0), .ref (y 1), .ref (y 2), .ref (y 3), .int (z 4), .int (z 5)]))]) [0, 1] (by decide) rfl
  have hK9 := hK.sub (tys' := []) [] rfl
  exact W.vret hx hb hr (fun t ht hW => ⟨⟨((fun j => 0), (fun _ => D.1 0)), rfl, trivial, by rw [ht]; exact hP9, va_K.moved hW.alike hK9, hD9⟩, hS.F ht⟩) hS.2.2 dX3_init_25

theorem dX8_init_0 : decode cX8_init 0 = .ok (.aload_n 0, 1) := by decide +kernel
theorem dX8_init_1 : decode cX8_init 1 = .ok (.invokespecial 3, 3) := by decide +kernel
theorem dX8_init_4 : decode cX8_init 4 = .ok (.aload_n 0, 1) := by decide +kernel
theorem dX8_init_5 : decode cX8_init 5 = .ok (.iconst 0, 1) := by decide +kernel
theorem dX8_init_6 : decode cX8_init 6 = .ok (.newarray .byte, 2) := by decide +kernel
theorem dX8_init_8 : decode cX8_init 8 = .ok (.putfield 9, 3) := by decide +kernel
theorem dX8_init_11 : decode cX8_init 11 = .ok (.aload_n 0, 1) := by decide +kernel
theorem dX8_init_12 : decode cX8_init 12 = .ok (.iconst 0, 1) := by decide +kernel
theorem dX8_init_13 : decode cX8_init 13 = .ok (.newarray .byte, 2) := by decide +kernel
theorem dX8_init_15 : decode cX8_init 15 = .ok (.putfield 15, 3) := by decide +kernel
theorem dX8_init_18 : decode cX8_init 18 = .ok (.aload_n 0, 1) := by decide +kernel
theorem dX8_init_19 : decode cX8_init 19 = .ok (.iconst 0, 1) := by decide +kernel
theorem dX8_init_20 : decode cX8_init 20 = .ok (.newarray .boolean, 2) := by decide +kernel
theorem dX8_init_22 : decode cX8_init 22 = .ok (.putfield 18, 3) := by decide +kernel
theorem dX8_init_25 : decode cX8_init 25 = .ok (.aload_n 0, 1) := by decide +kernel
theorem dX8_init_26 : decode cX8_init 26 = .ok (.bipush 12, 2) := by decide +kernel
theorem dX8_init_28 : decode cX8_init 28 = .ok (.newarray .int, 2) := by decide +kernel
theorem dX8_init_30 : decode cX8_init 30 = .ok (.putfield 22, 3) := by decide +kernel
theorem dX8_init_33 : decode cX8_init 33 = .ok (.aload_n 0, 1) := by decide +kernel
theorem dX8_init_34 : decode cX8_init 34 = .ok (.aload_n 1, 1) := by decide +kernel
theorem dX8_init_35 : decode cX8_init 35 = .ok (.putfield 26, 3) := by decide +kernel
theorem dX8_init_38 : decode cX8_init 38 = .ok (.aload_n 0, 1) := by decide +kernel
theorem dX8_init_39 : decode cX8_init 39 = .ok (.aload_n 1, 1) := by decide +kernel
theorem dX8_init_40 : decode cX8_init 40 = .ok (.getfield 30, 3) := by decide +kernel
theorem dX8_init_43 : decode cX8_init 43 = .ok (.putfield 36, 3) := by decide +kernel
theorem dX8_init_46 : decode cX8_init 46 = .ok (.aload_n 0, 1) := by decide +kernel
theorem dX8_init_47 : decode cX8_init 47 = .ok (.aload_n 1, 1) := by decide +kernel
theorem dX8_init_48 : decode cX8_init 48 = .ok (.getfield 37, 3) := by decide +kernel
theorem dX8_init_51 : decode cX8_init 51 = .ok (.putfield 41, 3) := by decide +kernel
theorem dX8_init_54 : decode cX8_init 54 = .ok (.return_, 1) := by decide +kernel
set_option maxHeartbeats 4000000 in
set_option maxRecDepth 100000 in
theorem c_X8_init (l : Launch) (D : va_G) (h0 h1 : Nat) (z : Nat → Int32) (y : Nat → Nat) (sz : Nat) : Met l yX8_init wsX8_init { frames := 1, cells := 4, slots := 12, locals := 12 } (va_Pc [.ref h0, .ref h1] (fun U => U.heap.size = sz ∧ va_P D vwCl [(h0, .inr (8, [.null, .null, .null, .null, .null, .null, .null, .int 0, .int 0, .int 0, .int 0, .int 0, .int 0])), (h1, .inr (2, [.ref (y 0), .ref (y 1), .ref (y 2), .ref (y 3), .int (z 4), .int (z 5)]))] U.heap ∧ va_K D vwCl [] U ∧ va_D (fun _ => True) [(h0, .inr (8, [.null, .null, .null, .null, .null, .null, .null, .int 0, .int 0, .int 0, .int 0, .int 0, .int 0])), (h1, .inr (2, [.ref (y 0), .ref (y 1), .ref (y 2), .ref (y 3), .int (z 4), .int (z 5)]))] ∧ ∀ w ∈ sm_nest, va_Nw w U)) (va_Qv (fun _ : sm_A => True) (fun u t => va_P D vwCl [(h0, .inr (8, [.ref h1, .ref (y 0), .ref (y 1), .ref (u.1 0), .ref (u.1 1), .ref (u.1 2), .ref (u.1 3), .int 0, .int 0, .int 0, .int 0, .int 0, .int 0])), (h1, .inr (2, [.ref (y 0), .ref (y 1), .ref (y 2), .ref (y 3), .int (z 4), .int (z 5)])), (u.1 0, .inl (u.2 0, 0, .inl (fun _ => 0))), (u.1 1, .inl (u.2 1, 0, .inl (fun _ => 0))), (u.1 2, .inl (u.2 2, 0, .inl (fun _ => 0))), (u.1 3, .inl (u.2 3, 12, .inl (fun _ => 0)))] t.heap ∧ va_K D vwCl [(u.2 0, .byte), (u.2 1, .byte), (u.2 2, .boolean), (u.2 3, .int)] t ∧ va_D (va_A [(h0, .inr (8, [.null, .null, .null, .null, .null, .null, .null, .int 0, .int 0, .int 0, .int 0, .int 0, .int 0])), (h1, .inr (2, [.ref (y 0), .ref (y 1), .ref (y 2), .ref (y 3), .int (z 4), .int (z 5)]))] sz) [(h0, .inr (8, [.ref h1, .ref (y 0), .ref (y 1), .ref (u.1 0), .ref (u.1 1), .ref (u.1 2), .ref (u.1 3), .int 0, .int 0, .int 0, .int 0, .int 0, .int 0])), (h1, .inr (2, [.ref (y 0), .ref (y 1), .ref (y 2), .ref (y 3), .int (z 4), .int (z 5)])), (u.1 0, .inl (u.2 0, 0, .inl (fun _ => 0))), (u.1 1, .inl (u.2 1, 0, .inl (fun _ => 0))), (u.1 2, .inl (u.2 2, 0, .inl (fun _ => 0))), (u.1 3, .inl (u.2 3, 12, .inl (fun _ => 0)))]) (va_A [(h0, .inr (8, [.null, .null, .null, .null, .null, .null, .null, .int 0, .int 0, .int 0, .int 0, .int 0, .int 0])), (h1, .inr (2, [.ref (y 0), .ref (y 1), .ref (y 2), .ref (y 3), .int (z 4), .int (z 5)]))] sz)) 4 12 (va_A [(h0, .inr (8, [.null, .null, .null, .null, .null, .null, .null, .int 0, .int 0, .int 0, .int 0, .int 0, .int 0])), (h1, .inr (2, [.ref (y 0), .ref (y 1), .ref (y 2), .ref (y 3), .int (z 4), .int (z 5)]))] sz) := by
  refine Met.ofW (cc := cX8_init) (maxL := 2) (ret := none) (by decide) rfl ?_
  intro p e s m args below meth c s₁ B hml hv
  obtain ⟨rfl, hsz, hP, hK, hD0, hN⟩ := hv
  have hx := B.exec
  have hb := B.bytes
  have hr := B.returns
  have hts := atoms_spec (ws := wsX8_init) B.pre
  have hown : s.vm.findClass RX8 = some m.cls := findClass_of_methodNamed B.named
  have hlocks := B.notSynchronized
  have hin : meth.name = "<init>" := (name_of_methodNamed B.named B.method).1
  subst hsz
  have hD := hD0.self (sz := s.heap.size)
  generalize hAe : va_A [(h0, .inr (8, [.null, .null, .null, .null, .null, .null, .null, .int 0, .int 0, .int 0, .int 0, .int 0, .int 0])), (h1, .inr (2, [.ref (y 0), .ref (y 1), .ref (y 2), .ref (y 3), .int (z 4), .int (z 5)]))] s.heap.size = A at hD ⊢
  have hA : ∀ q : Nat, s.heap.size ≤ q → A q := fun q h => by rw [← hAe]; exact Or.inr h
  have hS : va_S A s.heap s.heap [] := va_S.rf
  have in_X2 : ∀ w ∈ wsX20, w ∈ wsX8_init := by decide +kernel
  have in_X8 : ∀ w ∈ wsX80, w ∈ wsX8_init := by decide +kernel
  have k_0 := hts (.methodLink RX8 3 objectInit) (by decide +kernel)
  have k_1 := hts (.instanceMethod objectInit) (by decide +kernel)
  have k_2 := hts (.code objectInit ⟨#[0xb1]⟩ 1 none) (by decide +kernel)
  have k_3 := hts (.arrayClass .byte) (by decide +kernel)
  have k_4 := hts (.fieldLink RX8 9 "SteadyMachine$Verifier" "heights" "[B") (by decide +kernel)
  have k_5 := hts (.fieldLink RX8 15 "SteadyMachine$Verifier" "types" "[B") (by decide +kernel)
  have k_6 := hts (.arrayClass .boolean) (by decide +kernel)
  have k_7 := hts (.fieldLink RX8 18 "SteadyMachine$Verifier" "marked" "[Z") (by decide +kernel)
  have k_8 := hts (.arrayClass .int) (by decide +kernel)
  have k_9 := hts (.fieldLink RX8 22 "SteadyMachine$Verifier" "now" "[I") (by decide +kernel)
  have k_10 := hts (.fieldLink RX8 26 "SteadyMachine$Verifier" "image" "LSteadyMachine$Image;") (by decide +kernel)
  have k_11 := hts (.fieldLink RX8 30 "SteadyMachine$Image" "classes" "LSteadyMachine$Classes;") (by decide +kernel)
  have k_12 := hts (.fieldLink RX8 36 "SteadyMachine$Verifier" "classes" "LSteadyMachine$Classes;") (by decide +kernel)
  have k_13 := hts (.fieldLink RX8 37 "SteadyMachine$Image" "methods" "LSteadyMachine$Methods;") (by decide +kernel)
  have k_14 := hts (.fieldLink RX8 41 "SteadyMachine$Verifier" "methods" "LSteadyMachine$Methods;") (by decide +kernel)
  have hl := lv_entry ([.ref h0, .ref h1]) (n := 2) (Nat.le_of_ble_eq_true rfl)
  rw [lg_entry_eq]
  generalize (lg_sl ([.ref h0, .ref h1]) ++ List.replicate (2 - (lg_sl ([.ref h0, .ref h1])).length) Slot.unset).toArray = ls at hl ⊢
  have hl : lv_has ls 2 [(0, .ref h0), (1, .ref h1)] := hl
  refine lv_aload_n hx hb dX8_init_0 rfl (lv_at hl 0 rfl) ?_
  refine W.objInit hx hb hown k_0 k_1 k_2 rfl (by rw [hml]; exact hl.1) rfl dX8_init_1 (Nat.le_of_ble_eq_true rfl) (Nat.le_of_ble_eq_true rfl) ?_
  refine W.eq (g2 := F0 m 4 ls []) rfl ?_
  refine lv_aload_n hx hb dX8_init_4 rfl (lv_at hl 0 rfl) ?_
  refine lv_iconst (v := 0) hx hb dX8_init_5 (by decide) ?_
  refine va_newa (atype := .byte) (ty := .byte) (n := 0) (N' := 0) (a0 := (0, .inl (fun _ => 0))) hx hb k_3 rfl hK hP hD hS hA (fun _ => rfl) (by decide) (by decide) (by decide) (Nat.le_of_ble_eq_true rfl) (Nat.le_of_ble_eq_true rfl) dX8_init_6 (fun q0 c0 H hK hP hD hS => ?_)
  have hP : va_P D vwCl [(h0, .inr (8, [.null, .null, .null, .null, .null, .null, .null, .int 0, .int 0, .int 0, .int 0, .int 0, .int 0])), (h1, .inr (2, [.ref (y 0), .ref (y 1), .ref (y 2), .ref (y 3), .int (z 4), .int (z 5)])), (q0, .inl (c0, 0, .inl (fun _ => 0)))] H := hP
  have hD : va_D A [(h0, .inr (8, [.null, .null, .null, .null, .null, .null, .null, .int 0, .int 0, .int 0, .int 0, .int 0, .int 0])), (h1, .inr (2, [.ref (y 0), .ref (y 1), .ref (y 2), .ref (y 3), .int (z 4), .int (z 5)])), (q0, .inl (c0, 0, .inl (fun _ => 0)))] := hD
  have hK : va_K D vwCl [(c0, .byte)] s := hK
  refine W.widen (k := 1) (n := 0) (by omega) (by omega) ?_
  refine va_put (D := D) (ci := 8) (v := .ref q0) (ty := .array .byte) (C := RX8) (T := TX8) (N := 13) hx hb hts in_X8 tyX8 tyX8_ok nmX8 hown hK hP hD hS 0 rfl rfl 3 (by decide) k_4 (fun _ h9 => h9) rfl (by decide +kernel) rfl rfl (Nat.le_of_ble_eq_true rfl) dX8_init_8 (fun H locs hP hD hS => ?_)
  have hP : va_P D vwCl [(h0, .inr (8, [.null, .null, .null, .ref q0, .null, .null, .null, .int 0, .int 0, .int 0, .int 0, .int 0, .int 0])), (h1, .inr (2, [.ref (y 0), .ref (y 1), .ref (y 2), .ref (y 3), .int (z 4), .int (z 5)])), (q0, .inl (c0, 0, .inl (fun _ => 0)))] H := hP
  have hD : va_D A [(h0, .inr (8, [.null, .null, .null, .ref q0, .null, .null, .null, .int 0, .int 0, .int 0, .int 0, .int 0, .int 0])), (h1, .inr (2, [.ref (y 0), .ref (y 1), .ref (y 2), .ref (y 3), .int (z 4), .int (z 5)])), (q0, .inl (c0, 0, .inl (fun _ => 0)))] := hD
  refine lv_aload_n hx hb dX8_init_11 rfl (lv_at hl 0 rfl) ?_
  refine lv_iconst (v := 0) hx hb dX8_init_12 (by decide) ?_
  refine va_newa (atype := .byte) (ty := .byte) (n := 0) (N' := 0) (a0 := (0, .inl (fun _ => 0))) hx hb k_3 rfl hK hP hD hS hA (fun _ => rfl) (by decide) (by decide) (by decide) (Nat.le_of_ble_eq_true rfl) (Nat.le_of_ble_eq_true rfl) dX8_init_13 (fun q1 c1 H hK hP hD hS => ?_)
  have hP : va_P D vwCl [(h0, .inr (8, [.null, .null, .null, .ref q0, .null, .null, .null, .int 0, .int 0, .int 0, .int 0, .int 0, .int 0])), (h1, .inr (2, [.ref (y 0), .ref (y 1), .ref (y 2), .ref (y 3), .int (z 4), .int (z 5)])), (q0, .inl (c0, 0, .inl (fun _ => 0))), (q1, .inl (c1, 0, .inl (fun _ => 0)))] H := hP
  have hD : va_D A [(h0, .inr (8, [.null, .null, .null, .ref q0, .null, .null, .null, .int 0, .int 0, .int 0, .int 0, .int 0, .int 0])), (h1, .inr (2, [.ref (y 0), .ref (y 1), .ref (y 2), .ref (y 3), .int (z 4), .int (z 5)])), (q0, .inl (c0, 0, .inl (fun _ => 0))), (q1, .inl (c1, 0, .inl (fun _ => 0)))] := hD
  have hK : va_K D vwCl [(c0, .byte), (c1, .byte)] s := hK
  refine W.widen (k := 2) (n := 0) (by omega) (by omega) ?_
  refine va_put (D := D) (ci := 8) (v := .ref q1) (ty := .array .byte) (C := RX8) (T := TX8) (N := 13) hx hb hts in_X8 tyX8 tyX8_ok nmX8 hown hK hP hD hS 0 rfl rfl 4 (by decide) k_5 (fun _ h9 => h9) rfl (by decide +kernel) rfl rfl (Nat.le_of_ble_eq_true rfl) dX8_init_15 (fun H locs hP hD hS => ?_)
  have hP : va_P D vwCl [(h0, .inr (8, [.null, .null, .null, .ref q0, .ref q1, .null, .null, .int 0, .int 0, .int 0, .int 0, .int 0, .int 0])), (h1, .inr (2, [.ref (y 0), .ref (y 1), .ref (y 2), .ref (y 3), .int (z 4), .int (z 5)])), (q0, .inl (c0, 0, .inl (fun _ => 0))), (q1, .inl (c1, 0, .inl (fun _ => 0)))] H := hP
  have hD : va_D A [(h0, .inr (8, [.null, .null, .null, .ref q0, .ref q1, .null, .null, .int 0, .int 0, .int 0, .int 0, .int 0, .int 0])), (h1, .inr (2, [.ref (y 0), .ref (y 1), .ref (y 2), .ref (y 3), .int (z 4), .int (z 5)])), (q0, .inl (c0, 0, .inl (fun _ => 0))), (q1, .inl (c1, 0, .inl (fun _ => 0)))] := hD
  refine lv_aload_n hx hb dX8_init_18 rfl (lv_at hl 0 rfl) ?_
  refine lv_iconst (v := 0) hx hb dX8_init_19 (by decide) ?_
  refine va_newa (atype := .boolean) (ty := .boolean) (n := 0) (N' := 0) (a0 := (0, .inl (fun _ => 0))) hx hb k_6 rfl hK hP hD hS hA (fun _ => rfl) (by decide) (by decide) (by decide) (Nat.le_of_ble_eq_true rfl) (Nat.le_of_ble_eq_true rfl) dX8_init_20 (fun q2 c2 H hK hP hD hS => ?_)
  have hP : va_P D vwCl [(h0, .inr (8, [.null, .null, .null, .ref q0, .ref q1, .null, .null, .int 0, .int 0, .int 0, .int 0, .int 0, .int 0])), (h1, .inr (2, [.ref (y 0), .ref (y 1), .ref (y 2), .ref (y 3), .int (z 4), .int (z 5)])), (q0, .inl (c0, 0, .inl (fun _ => 0))), (q1, .inl (c1, 0, .inl (fun _ => 0))), (q2, .inl (c2, 0, .inl (fun _ => 0)))] H := hP
  have hD : va_D A [(h0, .inr (8, [.null, .null, .null, .ref q0, .ref q1, .null, .null, .int 0, .int 0, .int 0, .int 0, .int 0, .int 0])), (h1, .inr (2, [.ref (y 0), .ref (y 1), .ref (y 2), .ref (y 3), .int (z 4), .int (z 5)])), (q0, .inl (c0, 0, .inl (fun _ => 0))), (q1, .inl (c1, 0, .inl (fun _ => 0))), (q2, .inl (c2, 0, .inl (fun _ => 0)))] := hD
  have hK : va_K D vwCl [(c0, .byte), (c1, .byte), (c2, .boolean)] s := hK
  refine W.widen (k := 3) (n := 0) (by omega) (by omega) ?_
  refine va_put (D := D) (ci := 8) (v := .ref q2) (ty := .array .boolean) (C := RX8) (T := TX8) (N := 13) hx hb hts in_X8 tyX8 tyX8_ok nmX8 hown hK hP hD hS 0 rfl rfl 5 (by decide) k_7 (fun _ h9 => h9) rfl (by decide +kernel) rfl rfl (Nat.le_of_ble_eq_true rfl) dX8_init_22 (fun H locs hP hD hS => ?_)
  have hP : va_P D vwCl [(h0, .inr (8, [.null, .null, .null, .ref q0, .ref q1, .ref q2, .null, .int 0, .int 0, .int 0, .int 0, .int 0, .int 0])), (h1, .inr (2, [.ref (y 0), .ref (y 1), .ref (y 2), .ref (y 3), .int (z 4), .int (z 5)])), (q0, .inl (c0, 0, .inl (fun _ => 0))), (q1, .inl (c1, 0, .inl (fun _ => 0))), (q2, .inl (c2, 0, .inl (fun _ => 0)))] H := hP
  have hD : va_D A [(h0, .inr (8, [.null, .null, .null, .ref q0, .ref q1, .ref q2, .null, .int 0, .int 0, .int 0, .int 0, .int 0, .int 0])), (h1, .inr (2, [.ref (y 0), .ref (y 1), .ref (y 2), .ref (y 3), .int (z 4), .int (z 5)])), (q0, .inl (c0, 0, .inl (fun _ => 0))), (q1, .inl (c1, 0, .inl (fun _ => 0))), (q2, .inl (c2, 0, .inl (fun _ => 0)))] := hD
  refine lv_aload_n hx hb dX8_init_25 rfl (lv_at hl 0 rfl) ?_
  refine lv_bipush (v := 12) hx hb dX8_init_26 (by decide) ?_
  refine va_newa (atype := .int) (ty := .int) (n := 12) (N' := 12) (a0 := (12, .inl (fun _ => 0))) hx hb k_8 rfl hK hP hD hS hA (fun _ => rfl) (by decide) (by decide) (by decide) (Nat.le_of_ble_eq_true rfl) (Nat.le_of_ble_eq_true rfl) dX8_init_28 (fun q3 c3 H hK hP hD hS => ?_)
  have hP : va_P D vwCl [(h0, .inr (8, [.null, .null, .null, .ref q0, .ref q1, .ref q2, .null, .int 0, .int 0, .int 0, .int 0, .int 0, .int 0])), (h1, .inr (2, [.ref (y 0), .ref (y 1), .ref (y 2), .ref (y 3), .int (z 4), .int (z 5)])), (q0, .inl (c0, 0, .inl (fun _ => 0))), (q1, .inl (c1, 0, .inl (fun _ => 0))), (q2, .inl (c2, 0, .inl (fun _ => 0))), (q3, .inl (c3, 12, .inl (fun _ => 0)))] H := hP
  have hD : va_D A [(h0, .inr (8, [.null, .null, .null, .ref q0, .ref q1, .ref q2, .null, .int 0, .int 0, .int 0, .int 0, .int 0, .int 0])), (h1, .inr (2, [.ref (y 0), .ref (y 1), .ref (y 2), .ref (y 3), .int (z 4), .int (z 5)])), (q0, .inl (c0, 0, .inl (fun _ => 0))), (q1, .inl (c1, 0, .inl (fun _ => 0))), (q2, .inl (c2, 0, .inl (fun _ => 0))), (q3, .inl (c3, 12, .inl (fun _ => 0)))] := hD
  have hK : va_K D vwCl [(c0, .byte), (c1, .byte), (c2, .boolean), (c3, .int)] s := hK
  refine W.widen (k := 4) (n := 12) (by omega) (by omega) ?_
  refine va_putF (D := D) (ci := 8) (v := .ref q3) (ty := .array .int) (C := RX8) (T := TX8) (N := 13) hx hb hts in_X8 tyX8 tyX8_ok nmX8 hown hK hP hD hS 0 rfl rfl 6 (by decide) k_9 (fun _ h9 => h9) rfl hin rfl (by decide +kernel) rfl rfl (Nat.le_of_ble_eq_true rfl) dX8_init_30 (fun H locs hP hD hS => ?_)
  have hP : va_P D vwCl [(h0, .inr (8, [.null, .null, .null, .ref q0, .ref q1, .ref q2, .ref q3, .int 0, .int 0, .int 0, .int 0, .int 0, .int 0])), (h1, .inr (2, [.ref (y 0), .ref (y 1), .ref (y 2), .ref (y 3), .int (z 4), .int (z 5)])), (q0, .inl (c0, 0, .inl (fun _ => 0))), (q1, .inl (c1, 0, .inl (fun _ => 0))), (q2, .inl (c2, 0, .inl (fun _ => 0))), (q3, .inl (c3, 12, .inl (fun _ => 0)))] H := hP
  have hD : va_D A [(h0, .inr (8, [.null, .null, .null, .ref q0, .ref q1, .ref q2, .ref q3, .int 0, .int 0, .int 0, .int 0, .int 0, .int 0])), (h1, .inr (2, [.ref (y 0), .ref (y 1), .ref (y 2), .ref (y 3), .int (z 4), .int (z 5)])), (q0, .inl (c0, 0, .inl (fun _ => 0))), (q1, .inl (c1, 0, .inl (fun _ => 0))), (q2, .inl (c2, 0, .inl (fun _ => 0))), (q3, .inl (c3, 12, .inl (fun _ => 0)))] := hD
  refine lv_aload_n hx hb dX8_init_33 rfl (lv_at hl 0 rfl) ?_
  refine lv_aload_n hx hb dX8_init_34 rfl (lv_at hl 1 rfl) ?_
  refine va_putF (D := D) (ci := 8) (v := .ref h1) (ty := .object "SteadyMachine$Image") (C := RX8) (T := TX8) (N := 13) hx hb hts in_X8 tyX8 tyX8_ok nmX8 hown hK hP hD hS 0 rfl rfl 0 (by decide) k_10 (fun _ h9 => h9) rfl hin rfl (by decide +kernel) rfl rfl (Nat.le_of_ble_eq_true rfl) dX8_init_35 (fun H locs hP hD hS => ?_)
  have hP : va_P D vwCl [(h0, .inr (8, [.ref h1, .null, .null, .ref q0, .ref q1, .ref q2, .ref q3, .int 0, .int 0, .int 0, .int 0, .int 0, .int 0])), (h1, .inr (2, [.ref (y 0), .ref (y 1), .ref (y 2), .ref (y 3), .int (z 4), .int (z 5)])), (q0, .inl (c0, 0, .inl (fun _ => 0))), (q1, .inl (c1, 0, .inl (fun _ => 0))), (q2, .inl (c2, 0, .inl (fun _ => 0))), (q3, .inl (c3, 12, .inl (fun _ => 0)))] H := hP
  have hD : va_D A [(h0, .inr (8, [.ref h1, .null, .null, .ref q0, .ref q1, .ref q2, .ref q3, .int 0, .int 0, .int 0, .int 0, .int 0, .int 0])), (h1, .inr (2, [.ref (y 0), .ref (y 1), .ref (y 2), .ref (y 3), .int (z 4), .int (z 5)])), (q0, .inl (c0, 0, .inl (fun _ => 0))), (q1, .inl (c1, 0, .inl (fun _ => 0))), (q2, .inl (c2, 0, .inl (fun _ => 0))), (q3, .inl (c3, 12, .inl (fun _ => 0)))] := hD
  refine lv_aload_n hx hb dX8_init_38 rfl (lv_at hl 0 rfl) ?_
  refine lv_aload_n hx hb dX8_init_39 rfl (lv_at hl 1 rfl) ?_
  refine va_get (D := D) (ci := 2) (v := .ref (y 0)) (C := RX2) (T := TX2) (N := 6) hx hb hts in_X2 hown hK hP 1 rfl rfl 0 (by decide) k_11 (fun _ h9 => h9) rfl dX8_init_40 ?_
  refine va_putF (D := D) (ci := 8) (v := .ref (y 0)) (ty := .object "SteadyMachine$Classes") (C := RX8) (T := TX8) (N := 13) hx hb hts in_X8 tyX8 tyX8_ok nmX8 hown hK hP hD hS 0 rfl rfl 1 (by decide) k_12 (fun _ h9 => h9) rfl hin rfl (by decide +kernel) rfl rfl (Nat.le_of_ble_eq_true rfl) dX8_init_43 (fun H locs hP hD hS => ?_)
  have hP : va_P D vwCl [(h0, .inr (8, [.ref h1, .ref (y 0), .null, .ref q0, .ref q1, .ref q2, .ref q3, .int 0, .int 0, .int 0, .int 0, .int 0, .int 0])), (h1, .inr (2, [.ref (y 0), .ref (y 1), .ref (y 2), .ref (y 3), .int (z 4), .int (z 5)])), (q0, .inl (c0, 0, .inl (fun _ => 0))), (q1, .inl (c1, 0, .inl (fun _ => 0))), (q2, .inl (c2, 0, .inl (fun _ => 0))), (q3, .inl (c3, 12, .inl (fun _ => 0)))] H := hP
  have hD : va_D A [(h0, .inr (8, [.ref h1, .ref (y 0), .null, .ref q0, .ref q1, .ref q2, .ref q3, .int 0, .int 0, .int 0, .int 0, .int 0, .int 0])), (h1, .inr (2, [.ref (y 0), .ref (y 1), .ref (y 2), .ref (y 3), .int (z 4), .int (z 5)])), (q0, .inl (c0, 0, .inl (fun _ => 0))), (q1, .inl (c1, 0, .inl (fun _ => 0))), (q2, .inl (c2, 0, .inl (fun _ => 0))), (q3, .inl (c3, 12, .inl (fun _ => 0)))] := hD
  refine lv_aload_n hx hb dX8_init_46 rfl (lv_at hl 0 rfl) ?_
  refine lv_aload_n hx hb dX8_init_47 rfl (lv_at hl 1 rfl) ?_
  refine va_get (D := D) (ci := 2) (v := .ref (y 1)) (C := RX2) (T := TX2) (N := 6) hx hb hts in_X2 hown hK hP 1 rfl rfl 1 (by decide) k_13 (fun _ h9 => h9) rfl dX8_init_48 ?_
  refine va_putF (D := D) (ci := 8) (v := .ref (y 1)) (ty := .object "SteadyMachine$Methods") (C := RX8) (T := TX8) (N := 13) hx hb hts in_X8 tyX8 tyX8_ok nmX8 hown hK hP hD hS 0 rfl rfl 2 (by decide) k_14 (fun _ h9 => h9) rfl hin rfl (by decide +kernel) rfl rfl (Nat.le_of_ble_eq_true rfl) dX8_init_51 (fun H locs hP hD hS => ?_)
  have hP : va_P D vwCl [(h0, .inr (8, [.ref h1, .ref (y 0), .ref (y 1), .ref q0, .ref q1, .ref q2, .ref q3, .int 0, .int 0, .int 0, .int 0, .int 0, .int 0])), (h1, .inr (2, [.ref (y 0), .ref (y 1), .ref (y 2), .ref (y 3), .int (z 4), .int (z 5)])), (q0, .inl (c0, 0, .inl (fun _ => 0))), (q1, .inl (c1, 0, .inl (fun _ => 0))), (q2, .inl (c2, 0, .inl (fun _ => 0))), (q3, .inl (c3, 12, .inl (fun _ => 0)))] H := hP
  have hD : va_D A [(h0, .inr (8, [.ref h1, .ref (y 0), .ref (y 1), .ref q0, .ref q1, .ref q2, .ref q3, .int 0, .int 0, .int 0, .int 0, .int 0, .int 0])), (h1, .inr (2, [.ref (y 0), .ref (y 1), .ref (y 2), .ref (y 3), .int (z 4), .int (z 5)])), (q0, .inl (c0, 0, .inl (fun _ => 0))), (q1, .inl (c1, 0, .inl (fun _ => 0))), (q2, .inl (c2, 0, .inl (fun _ => 0))), (q3, .inl (c3, 12, .inl (fun _ => 0)))] := hD
  have hP9 := hP.sub (ws' := [(h0, .inr (8, [.ref h1, .ref (y 0), .ref (y 1), .ref q0, .ref q1, .ref q2, .ref q3, .int 0, .int 0, .int 0, .int 0, .int 0, .int 0])), (h1, .inr (2, [.ref (y 0), .ref (y 1), .ref (y 2), .ref (y 3), .int (z 4), .int (z 5)])), (q0, .inl (c0, 0, .inl (fun _ => 0))), (q1, .inl (c1, 0, .inl (fun _ => 0))), (q2, .inl (c2, 0, .inl (fun _ => 0))), (q3, .inl (c3, 12, .inl (fun _ => 0)))]) [0, 1, 2, 3, 4, 5] rfl
  have hD9 := hD.sub (ws' := [(h0, .inr (8, [.ref h1, .ref (y 0), .ref (y 1), .ref q0, .ref q1, .ref q2, .ref q3, .int 0, .int 0, .int 0, .int 0, .int 0, .int 0])), (h1, .inr (2, [.ref (y 0), .ref (y 1), .ref (y 2), .ref (y 3), .int (z 4), .int (z 5)])), (q0, .inl (c0, 0, .inl (fun _ => 0))), (q1, .inl (c1, 0, .inl (fun _ => 0))), (q2, .inl (c2, 0, .inl (fun _ => 0))), (q3, .inl (c3, 12, .inl (fun _ => 0)))]) [0, 1, 2, 3, 4, 5] (by decide) rfl
  have hK9 := hK.sub (tys' := [(c0, .byte), (c1, .byte), (c2, .boolean), (c3, .int)]) [0, 1, 2, 3] rfl
  exact W.vret hx hb hr (fun t ht hW => ⟨⟨((fun j => if j = 0 then q0 else if j = 1 then q1 else if j = 2 then q2 else if j = 3 then q3 else 0), (fun j => if j = 0 then c0 else if j = 1 then c1 else if j = 2 then c2 else if j = 3 then c3 else c0)), rfl, trivial, by rw [ht]; exact hP9, va_K.moved hW.alike hK9, hD9⟩, hS.F ht⟩) hS.2.2 dX8_init_54

theorem dX7_init_0 : decode cX7_init 0 = .ok (.aload_n 0, 1) := by decide +kernel
theorem dX7_init_1 : decode cX7_init 1 = .ok (.invokespecial 3, 3) := by decide +kernel
theorem dX7_init_4 : decode cX7_init 4 = .ok (.aload_n 0, 1) := by decide +kernel
theorem dX7_init_5 : decode cX7_init 5 = .ok (.aload_n 1, 1) := by decide +kernel
theorem dX7_init_6 : decode cX7_init 6 = .ok (.putfield 9, 3) := by decide +kernel
theorem dX7_init_9 : decode cX7_init 9 = .ok (.aload_n 0, 1) := by decide +kernel
theorem dX7_init_10 : decode cX7_init 10 = .ok (.aload_n 1, 1) := by decide +kernel
theorem dX7_init_11 : decode cX7_init 11 = .ok (.getfield 15, 3) := by decide +kernel
theorem dX7_init_14 : decode cX7_init 14 = .ok (.putfield 21, 3) := by decide +kernel
theorem dX7_init_17 : decode cX7_init 17 = .ok (.aload_n 0, 1) := by decide +kernel
theorem dX7_init_18 : decode cX7_init 18 = .ok (.aload_n 1, 1) := by decide +kernel
theorem dX7_init_19 : decode cX7_init 19 = .ok (.getfield 22, 3) := by decide +kernel
theorem dX7_init_22 : decode cX7_init 22 = .ok (.putfield 26, 3) := by decide +kernel
theorem dX7_init_25 : decode cX7_init 25 = .ok (.aload_n 0, 1) := by decide +kernel
theorem dX7_init_26 : decode cX7_init 26 = .ok (.aload_n 2, 1) := by decide +kernel
theorem dX7_init_27 : decode cX7_init 27 = .ok (.putfield 27, 3) := by decide +kernel
theorem dX7_init_30 : decode cX7_init 30 = .ok (.aload_n 0, 1) := by decide +kernel
theorem dX7_init_31 : decode cX7_init 31 = .ok (.aload_n 3, 1) := by decide +kernel
theorem dX7_init_32 : decode cX7_init 32 = .ok (.putfield 31, 3) := by decide +kernel
theorem dX7_init_35 : decode cX7_init 35 = .ok (.return_, 1) := by decide +kernel
set_option maxHeartbeats 4000000 in
set_option maxRecDepth 100000 in
theorem c_X7_init (l : Launch) (D : va_G) (h0 h1 h2 h3 : Nat) (z : Nat → Int32) (y : Nat → Nat) (sz : Nat) : Met l yX7_init wsX7_init { frames := 1, cells := 0, slots := 0, locals := 12 } (va_Pc [.ref h0, .ref h1, .ref h2, .ref h3] (fun U => U.heap.size = sz ∧ va_P D vwCl [(h0, .inr (7, [.null, .null, .null, .null, .null, .int 0, .int 0, .long 0, .int 0, .int 0, .int 0, .int 0, .int 0])), (h1, .inr (2, [.ref (y 0), .ref (y 1), .ref (y 2), .ref (y 3), .int (z 4), .int (z 5)]))] U.heap ∧ va_K D vwCl [] U ∧ va_D (fun _ => True) [(h0, .inr (7, [.null, .null, .null, .null, .null, .int 0, .int 0, .long 0, .int 0, .int 0, .int 0, .int 0, .int 0])), (h1, .inr (2, [.ref (y 0), .ref (y 1), .ref (y 2), .ref (y 3), .int (z 4), .int (z 5)]))] ∧ ∀ w ∈ sm_nest, va_Nw w U)) (va_Qv (fun _ : sm_A => True) (fun u t => va_P D vwCl [(h0, .inr (7, [.ref h1, .ref (y 0), .ref (y 1), .ref h2, .ref h3, .int 0, .int 0, .long 0, .int 0, .int 0, .int 0, .int 0, .int 0])), (h1, .inr (2, [.ref (y 0), .ref (y 1), .ref (y 2), .ref (y 3), .int (z 4), .int (z 5)]))] t.heap ∧ va_K D vwCl [] t ∧ va_D (va_A [(h0, .inr (7, [.null, .null, .null, .null, .null, .int 0, .int 0, .long 0, .int 0, .int 0, .int 0, .int 0, .int 0])), (h1, .inr (2, [.ref (y 0), .ref (y 1), .ref (y 2), .ref (y 3), .int (z 4), .int (z 5)]))] sz) [(h0, .inr (7, [.ref h1, .ref (y 0), .ref (y 1), .ref h2, .ref h3, .int 0, .int 0, .long 0, .int 0, .int 0, .int 0, .int 0, .int 0])), (h1, .inr (2, [.ref (y 0), .ref (y 1), .ref (y 2), .ref (y 3), .int (z 4), .int (z 5)]))]) (va_A [(h0, .inr (7, [.null, .null, .null, .null, .null, .int 0, .int 0, .long 0, .int 0, .int 0, .int 0, .int 0, .int 0])), (h1, .inr (2, [.ref (y 0), .ref (y 1), .ref (y 2), .ref (y 3), .int (z 4), .int (z 5)]))] sz)) 0 0 (va_A [(h0, .inr (7, [.null, .null, .null, .null, .null, .int 0, .int 0, .long 0, .int 0, .int 0, .int 0, .int 0, .int 0])), (h1, .inr (2, [.ref (y 0), .ref (y 1), .ref (y 2), .ref (y 3), .int (z 4), .int (z 5)]))] sz) := by
  refine Met.ofW (cc := cX7_init) (maxL := 4) (ret := none) (by decide) rfl ?_
  intro p e s m args below meth c s₁ B hml hv
  obtain ⟨rfl, hsz, hP, hK, hD0, hN⟩ := hv
  have hx := B.exec
  have hb := B.bytes
  have hr := B.returns
  have hts := atoms_spec (ws := wsX7_init) B.pre
  have hown : s.vm.findClass RX7 = some m.cls := findClass_of_methodNamed B.named
  have hlocks := B.notSynchronized
  have hin : meth.name = "<init>" := (name_of_methodNamed B.named B.method).1
  subst hsz
  have hD := hD0.self (sz := s.heap.size)
  generalize hAe : va_A [(h0, .inr (7, [.null, .null, .null, .null, .null, .int 0, .int 0, .long 0, .int 0, .int 0, .int 0, .int 0, .int 0])), (h1, .inr (2, [.ref (y 0), .ref (y 1), .ref (y 2), .ref (y 3), .int (z 4), .int (z 5)]))] s.heap.size = A at hD ⊢
  have hA : ∀ q : Nat, s.heap.size ≤ q → A q := fun q h => by rw [← hAe]; exact Or.inr h
  have hS : va_S A s.heap s.heap [] := va_S.rf
  have in_X2 : ∀ w ∈ wsX20, w ∈ wsX7_init := by decide +kernel
  have in_X7 : ∀ w ∈ wsX70, w ∈ wsX7_init := by decide +kernel
  have k_0 := hts (.methodLink RX7 3 objectInit) (by decide +kernel)
  have k_1 := hts (.instanceMethod objectInit) (by decide +kernel)
  have k_2 := hts (.code objectInit ⟨#[0xb1]⟩ 1 none) (by decide +kernel)
  have k_3 := hts (.fieldLink RX7 9 "SteadyMachine$Runner" "image" "LSteadyMachine$Image;") (by decide +kernel)
  have k_4 := hts (.fieldLink RX7 15 "SteadyMachine$Image" "classes" "LSteadyMachine$Classes;") (by decide +kernel)
  have k_5 := hts (.fieldLink RX7 21 "SteadyMachine$Runner" "classes" "LSteadyMachine$Classes;") (by decide +kernel)
  have k_6 := hts (.fieldLink RX7 22 "SteadyMachine$Image" "methods" "LSteadyMachine$Methods;") (by decide +kernel)
  have k_7 := hts (.fieldLink RX7 26 "SteadyMachine$Runner" "methods" "LSteadyMachine$Methods;") (by decide +kernel)
  have k_8 := hts (.fieldLink RX7 27 "SteadyMachine$Runner" "heap" "LSteadyMachine$Heap;") (by decide +kernel)
  have k_9 := hts (.fieldLink RX7 31 "SteadyMachine$Runner" "ports" "LSteadyMachine$Ports;") (by decide +kernel)
  have hl := lv_entry ([.ref h0, .ref h1, .ref h2, .ref h3]) (n := 4) (Nat.le_of_ble_eq_true rfl)
  rw [lg_entry_eq]
  generalize (lg_sl ([.ref h0, .ref h1, .ref h2, .ref h3]) ++ List.replicate (4 - (lg_sl ([.ref h0, .ref h1, .ref h2, .ref h3])).length) Slot.unset).toArray = ls at hl ⊢
  have hl : lv_has ls 4 [(0, .ref h0), (1, .ref h1), (2, .ref h2), (3, .ref h3)] := hl
  refine lv_aload_n hx hb dX7_init_0 rfl (lv_at hl 0 rfl) ?_
  refine W.objInit hx hb hown k_0 k_1 k_2 rfl (by rw [hml]; exact hl.1) rfl dX7_init_1 (Nat.le_of_ble_eq_true rfl) (Nat.le_of_ble_eq_true rfl) ?_
  refine W.eq (g2 := F0 m 4 ls []) rfl ?_
  refine lv_aload_n hx hb dX7_init_4 rfl (lv_at hl 0 rfl) ?_
  refine lv_aload_n hx hb dX7_init_5 rfl (lv_at hl 1 rfl) ?_
  refine va_putF (D := D) (ci := 7) (v := .ref h1) (ty := .object "SteadyMachine$Image") (C := RX7) (T := TX7) (N := 13) hx hb hts in_X7 tyX7 tyX7_ok nmX7 hown hK hP hD hS 0 rfl rfl 0 (by decide) k_3 (fun _ h9 => h9) rfl hin rfl (by decide +kernel) rfl rfl (Nat.le_of_ble_eq_true rfl) dX7_init_6 (fun H locs hP hD hS => ?_)
  have hP : va_P D vwCl [(h0, .inr (7, [.ref h1, .null, .null, .null, .null, .int 0, .int 0, .long 0, .int 0, .int 0, .int 0, .int 0, .int 0])), (h1, .inr (2, [.ref (y 0), .ref (y 1), .ref (y 2), .ref (y 3), .int (z 4), .int (z 5)]))] H := hP
  have hD : va_D A [(h0, .inr (7, [.ref h1, .null, .null, .null, .null, .int 0, .int 0, .long 0, .int 0, .int 0, .int 0, .int 0, .int 0])), (h1, .inr (2, [.ref (y 0), .ref (y 1), .ref (y 2), .ref (y 3), .int (z 4), .int (z 5)]))] := hD
  refine lv_aload_n hx hb dX7_init_9 rfl (lv_at hl 0 rfl) ?_
  refine lv_aload_n hx hb dX7_init_10 rfl (lv_at hl 1 rfl) ?_
  refine va_get (D := D) (ci := 2) (v := .ref (y 0)) (C := RX2) (T := TX2) (N := 6) hx hb hts in_X2 hown hK hP 1 rfl rfl 0 (by decide) k_4 (fun _ h9 => h9) rfl dX7_init_11 ?_
  refine va_putF (D := D) (ci := 7) (v := .ref (y 0)) (ty := .object "SteadyMachine$Classes") (C := RX7) (T := TX7) (N := 13) hx hb hts in_X7 tyX7 tyX7_ok nmX7 hown hK hP hD hS 0 rfl rfl 1 (by decide) k_5 (fun _ h9 => h9) rfl hin rfl (by decide +kernel) rfl rfl (Nat.le_of_ble_eq_true rfl) dX7_init_14 (fun H locs hP hD hS => ?_)
  have hP : va_P D vwCl [(h0, .inr (7, [.ref h1, .ref (y 0), .null, .null, .null, .int 0, .int 0, .long 0, .int 0, .int 0, .int 0, .int 0, .int 0])), (h1, .inr (2, [.ref (y 0), .ref (y 1), .ref (y 2), .ref (y 3), .int (z 4), .int (z 5)]))] H := hP
  have hD : va_D A [(h0, .inr (7, [.ref h1, .ref (y 0), .null, .null, .null, .int 0, .int 0, .long 0, .int 0, .int 0, .int 0, .int 0, .int 0])), (h1, .inr (2, [.ref (y 0), .ref (y 1), .ref (y 2), .ref (y 3), .int (z 4), .int (z 5)]))] := hD
  refine lv_aload_n hx hb dX7_init_17 rfl (lv_at hl 0 rfl) ?_
  refine lv_aload_n hx hb dX7_init_18 rfl (lv_at hl 1 rfl) ?_
  refine va_get (D := D) (ci := 2) (v := .ref (y 1)) (C := RX2) (T := TX2) (N := 6) hx hb hts in_X2 hown hK hP 1 rfl rfl 1 (by decide) k_6 (fun _ h9 => h9) rfl dX7_init_19 ?_
  refine va_putF (D := D) (ci := 7) (v := .ref (y 1)) (ty := .object "SteadyMachine$Methods") (C := RX7) (T := TX7) (N := 13) hx hb hts in_X7 tyX7 tyX7_ok nmX7 hown hK hP hD hS 0 rfl rfl 2 (by decide) k_7 (fun _ h9 => h9) rfl hin rfl (by decide +kernel) rfl rfl (Nat.le_of_ble_eq_true rfl) dX7_init_22 (fun H locs hP hD hS => ?_)
  have hP : va_P D vwCl [(h0, .inr (7, [.ref h1, .ref (y 0), .ref (y 1), .null, .null, .int 0, .int 0, .long 0, .int 0, .int 0, .int 0, .int 0, .int 0])), (h1, .inr (2, [.ref (y 0), .ref (y 1), .ref (y 2), .ref (y 3), .int (z 4), .int (z 5)]))] H := hP
  have hD : va_D A [(h0, .inr (7, [.ref h1, .ref (y 0), .ref (y 1), .null, .null, .int 0, .int 0, .long 0, .int 0, .int 0, .int 0, .int 0, .int 0])), (h1, .inr (2, [.ref (y 0), .ref (y 1), .ref (y 2), .ref (y 3), .int (z 4), .int (z 5)]))] := hD
  refine lv_aload_n hx hb dX7_init_25 rfl (lv_at hl 0 rfl) ?_
  refine lv_aload_n hx hb dX7_init_26 rfl (lv_at hl 2 rfl) ?_
  refine va_putF (D := D) (ci := 7) (v := .ref h2) (ty := .object "SteadyMachine$Heap") (C := RX7) (T := TX7) (N := 13) hx hb hts in_X7 tyX7 tyX7_ok nmX7 hown hK hP hD hS 0 rfl rfl 3 (by decide) k_8 (fun _ h9 => h9) rfl hin rfl (by decide +kernel) rfl rfl (Nat.le_of_ble_eq_true rfl) dX7_init_27 (fun H locs hP hD hS => ?_)
  have hP : va_P D vwCl [(h0, .inr (7, [.ref h1, .ref (y 0), .ref (y 1), .ref h2, .null, .int 0, .int 0, .long 0, .int 0, .int 0, .int 0, .int 0, .int 0])), (h1, .inr (2, [.ref (y 0), .ref (y 1), .ref (y 2), .ref (y 3), .int (z 4), .int (z 5)]))] H := hP
  have hD : va_D A [(h0, .inr (7, [.ref h1, .ref (y 0), .ref (y 1), .ref h2, .null, .int 0, .int 0, .long 0, .int 0, .int 0, .int 0, .int 0, .int 0])), (h1, .inr (2, [.ref (y 0), .ref (y 1), .ref (y 2), .ref (y 3), .int (z 4), .int (z 5)]))] := hD
  refine lv_aload_n hx hb dX7_init_30 rfl (lv_at hl 0 rfl) ?_
  refine lv_aload_n hx hb dX7_init_31 rfl (lv_at hl 3 rfl) ?_
  refine va_putF (D := D) (ci := 7) (v := .ref h3) (ty := .object "SteadyMachine$Ports") (C := RX7) (T := TX7) (N := 13) hx hb hts in_X7 tyX7 tyX7_ok nmX7 hown hK hP hD hS 0 rfl rfl 4 (by decide) k_9 (fun _ h9 => h9) rfl hin rfl (by decide +kernel) rfl rfl (Nat.le_of_ble_eq_true rfl) dX7_init_32 (fun H locs hP hD hS => ?_)
  have hP : va_P D vwCl [(h0, .inr (7, [.ref h1, .ref (y 0), .ref (y 1), .ref h2, .ref h3, .int 0, .int 0, .long 0, .int 0, .int 0, .int 0, .int 0, .int 0])), (h1, .inr (2, [.ref (y 0), .ref (y 1), .ref (y 2), .ref (y 3), .int (z 4), .int (z 5)]))] H := hP
  have hD : va_D A [(h0, .inr (7, [.ref h1, .ref (y 0), .ref (y 1), .ref h2, .ref h3, .int 0, .int 0, .long 0, .int 0, .int 0, .int 0, .int 0, .int 0])), (h1, .inr (2, [.ref (y 0), .ref (y 1), .ref (y 2), .ref (y 3), .int (z 4), .int (z 5)]))] := hD
  have hP9 := hP.sub (ws' := [(h0, .inr (7, [.ref h1, .ref (y 0), .ref (y 1), .ref h2, .ref h3, .int 0, .int 0, .long 0, .int 0, .int 0, .int 0, .int 0, .int 0])), (h1, .inr (2, [.ref (y 0), .ref (y 1), .ref (y 2), .ref (y 3), .int (z 4), .int (z 5)]))]) [0, 1] rfl
  have hD9 := hD.sub (ws' := [(h0, .inr (7, [.ref h1, .ref (y 0), .ref (y 1), .ref h2, .ref h3, .int 0, .int 0, .long 0, .int 0, .int 0, .int 0, .int 0, .int 0])), (h1, .inr (2, [.ref (y 0), .ref (y 1), .ref (y 2), .ref (y 3), .int (z 4), .int (z 5)]))]) [0, 1] (by decide) rfl
  have hK9 := hK.sub (tys' := []) [] rfl
  exact W.vret hx hb hr (fun t ht hW => ⟨⟨((fun j => 0), (fun _ => D.1 0)), rfl, trivial, by rw [ht]; exact hP9, va_K.moved hW.alike hK9, hD9⟩, hS.F ht⟩) hS.2.2 dX7_init_35

theorem dX9_init_0 : decode cX9_init 0 = .ok (.aload_n 0, 1) := by decide +kernel
theorem dX9_init_1 : decode cX9_init 1 = .ok (.invokespecial 3, 3) := by decide +kernel
theorem dX9_init_4 : decode cX9_init 4 = .ok (.aload_n 0, 1) := by decide +kernel
theorem dX9_init_5 : decode cX9_init 5 = .ok (.aload_n 1, 1) := by decide +kernel
theorem dX9_init_6 : decode cX9_init 6 = .ok (.getfield 9, 3) := by decide +kernel
theorem dX9_init_9 : decode cX9_init 9 = .ok (.putfield 15, 3) := by decide +kernel
theorem dX9_init_12 : decode cX9_init 12 = .ok (.aload_n 0, 1) := by decide +kernel
theorem dX9_init_13 : decode cX9_init 13 = .ok (.aload_n 1, 1) := by decide +kernel
theorem dX9_init_14 : decode cX9_init 14 = .ok (.getfield 18, 3) := by decide +kernel
theorem dX9_init_17 : decode cX9_init 17 = .ok (.putfield 22, 3) := by decide +kernel
theorem dX9_init_20 : decode cX9_init 20 = .ok (.aload_n 0, 1) := by decide +kernel
theorem dX9_init_21 : decode cX9_init 21 = .ok (.aload_n 2, 1) := by decide +kernel
theorem dX9_init_22 : decode cX9_init 22 = .ok (.putfield 23, 3) := by decide +kernel
theorem dX9_init_25 : decode cX9_init 25 = .ok (.return_, 1) := by decide +kernel
set_option maxHeartbeats 4000000 in
set_option maxRecDepth 100000 in
theorem c_X9_init (l : Launch) (D : va_G) (h0 h1 h2 : Nat) (z : Nat → Int32) (y : Nat → Nat) (sz : Nat) : Met l yX9_init wsX9_init { frames := 1, cells := 0, slots := 0, locals := 12 } (va_Pc [.ref h0, .ref h1, .ref h2] (fun U => U.heap.size = sz ∧ va_P D vwCl [(h0, .inr (9, [.null, .null, .null])), (h1, .inr (2, [.ref (y 0), .ref (y 1), .ref (y 2), .ref (y 3), .int (z 4), .int (z 5)]))] U.heap ∧ va_K D vwCl [] U ∧ va_D (fun _ => True) [(h0, .inr (9, [.null, .null, .null])), (h1, .inr (2, [.ref (y 0), .ref (y 1), .ref (y 2), .ref (y 3), .int (z 4), .int (z 5)]))] ∧ ∀ w ∈ sm_nest, va_Nw w U)) (va_Qv (fun _ : sm_A => True) (fun u t => va_P D vwCl [(h0, .inr (9, [.ref (y 0), .ref (y 1), .ref h2])), (h1, .inr (2, [.ref (y 0), .ref (y 1), .ref (y 2), .ref (y 3), .int (z 4), .int (z 5)]))] t.heap ∧ va_K D vwCl [] t ∧ va_D (va_A [(h0, .inr (9, [.null, .null, .null])), (h1, .inr (2, [.ref (y 0), .ref (y 1), .ref (y 2), .ref (y 3), .int (z 4), .int (z 5)]))] sz) [(h0, .inr (9, [.ref (y 0), .ref (y 1), .ref h2])), (h1, .inr (2, [.ref (y 0), .ref (y 1), .ref (y 2), .ref (y 3), .int (z 4), .int (z 5)]))]) (va_A [(h0, .inr (9, [.null, .null, .null])), (h1, .inr (2, [.ref (y 0), .ref (y 1), .ref (y 2), .ref (y 3), .int (z 4), .int (z 5)]))] sz)) 0 0 (va_A [(h0, .inr (9, [.null, .null, .null])), (h1, .inr (2, [.ref (y 0), .ref (y 1), .ref (y 2), .ref (y 3), .int (z 4), .int (z 5)]))] sz) := by
  refine Met.ofW (cc := cX9_init) (maxL := 3) (ret := none) (by decide) rfl ?_
  intro p e s m args below meth c s₁ B hml hv
  obtain ⟨rfl, hsz, hP, hK, hD0, hN⟩ := hv
  have hx := B.exec
  have hb := B.bytes
  have hr := B.returns
  have hts := atoms_spec (ws := wsX9_init) B.pre
  have hown : s.vm.findClass RX9 = some m.cls := findClass_of_methodNamed B.named
  have hlocks := B.notSynchronized
  have hin : meth.name = "<init>" := (name_of_methodNamed B.named B.method).1
  subst hsz
  have hD := hD0.self (sz := s.heap.size)
  generalize hAe : va_A [(h0, .inr (9, [.null, .null, .null])), (h1, .inr (2, [.ref (y 0), .ref (y 1), .ref (y 2), .ref (y 3), .int (z 4), .int (z 5)]))] s.heap.size = A at hD ⊢
  have hA : ∀ q : Nat, s.heap.size ≤ q → A q := fun q h => by rw [← hAe]; exact Or.inr h
  have hS : va_S A s.heap s.heap [] := va_S.rf
  have in_X2 : ∀ w ∈ wsX20, w ∈ wsX9_init := by decide +kernel
  have in_X9 : ∀ w ∈ wsX90, w ∈ wsX9_init := by decide +kernel
  have k_0 := hts (.methodLink RX9 3 objectInit) (by decide +kernel)
  have k_1 := hts (.instanceMethod objectInit) (by decide +kernel)
  have k_2 := hts (.code objectInit ⟨#[0xb1]⟩ 1 none) (by decide +kernel)
  have k_3 := hts (.fieldLink RX9 9 "SteadyMachine$Image" "classes" "LSteadyMachine$Classes;") (by decide +kernel)
  have k_4 := hts (.fieldLink RX9 15 "SteadyMachine$View" "classes" "LSteadyMachine$Classes;") (by decide +kernel)
  have k_5 := hts (.fieldLink RX9 18 "SteadyMachine$Image" "methods" "LSteadyMachine$Methods;") (by decide +kernel)
  have k_6 := hts (.fieldLink RX9 22 "SteadyMachine$View" "methods" "LSteadyMachine$Methods;") (by decide +kernel)
  have k_7 := hts (.fieldLink RX9 23 "SteadyMachine$View" "heap" "LSteadyMachine$Heap;") (by decide +kernel)
  have hl := lv_entry ([.ref h0, .ref h1, .ref h2]) (n := 3) (Nat.le_of_ble_eq_true rfl)
  rw [lg_entry_eq]
  generalize (lg_sl ([.ref h0, .ref h1, .ref h2]) ++ List.replicate (3 - (lg_sl ([.ref h0, .ref h1, .ref h2])).length) Slot.unset).toArray = ls at hl ⊢
  have hl : lv_has ls 3 [(0, .ref h0), (1, .ref h1), (2, .ref h2)] := hl
  refine lv_aload_n hx hb dX9_init_0 rfl (lv_at hl 0 rfl) ?_
  refine W.objInit hx hb hown k_0 k_1 k_2 rfl (by rw [hml]; exact hl.1) rfl dX9_init_1 (Nat.le_of_ble_eq_true rfl) (Nat.le_of_ble_eq_true rfl) ?_
  refine W.eq (g2 := F0 m 4 ls []) rfl ?_
  refine lv_aload_n hx hb dX9_init_4 rfl (lv_at hl 0 rfl) ?_
  refine lv_aload_n hx hb dX9_init_5 rfl (lv_at hl 1 rfl) ?_
  refine va_get (D := D) (ci := 2) (v := .ref (y 0)) (C := RX2) (T := TX2) (N := 6) hx hb hts in_X2 hown hK hP 1 rfl rfl 0 (by decide) k_3 (fun _ h9 => h9) rfl dX9_init_6 ?_
  refine va_putF (D := D) (ci := 9) (v := .ref (y 0)) (ty := .object "SteadyMachine$Classes") (C := RX9) (T := TX9) (N := 3) hx hb hts in_X9 tyX9 tyX9_ok nmX9 hown hK hP hD hS 0 rfl rfl 0 (by decide) k_4 (fun _ h9 => h9) rfl hin rfl (by decide +kernel) rfl rfl (Nat.le_of_ble_eq_true rfl) dX9_init_9 (fun H locs hP hD hS => ?_)
  have hP : va_P D vwCl [(h0, .inr (9, [.ref (y 0), .null, .null])), (h1, .inr (2, [.ref (y 0), .ref (y 1), .ref (y 2), .ref (y 3), .int (z 4), .int (z 5)]))] H := hP
  have hD : va_D A [(h0, .inr (9, [.ref (y 0), .null, .null])), (h1, .inr (2, [.ref (y 0), .ref (y 1), .ref (y 2), .ref (y 3), .int (z 4), .int (z 5)]))] := hD
  refine lv_aload_n hx hb dX9_init_12 rfl (lv_at hl 0 rfl) ?_
  refine lv_aload_n hx hb dX9_init_13 rfl (lv_at hl 1 rfl) ?_
  refine va_get (D := D) (ci := 2) (v := .ref (y 1)) (C := RX2) (T := TX2) (N := 6) hx hb hts in_X2 hown hK hP 1 rfl rfl 1 (by decide) k_5 (fun _ h9 => h9) rfl dX9_init_14 ?_
  refine va_putF (D := D) (ci := 9) (v := .ref (y 1)) (ty := .object "SteadyMachine$Methods") (C := RX9) (T := TX9) (N := 3) hx hb hts in_X9 tyX9 tyX9_ok nmX9 hown hK hP hD hS 0 rfl rfl 1 (by decide) k_6 (fun _ h9 => h9) rfl hin rfl (by decide +kernel) rfl rfl (Nat.le_of_ble_eq_true rfl) dX9_init_17 (fun H locs hP hD hS => ?_)
  have hP : va_P D vwCl [(h0, .inr (9, [.ref (y 0), .ref (y 1), .null])), (h1, .inr (2, [.ref (y 0), .ref (y 1), .ref (y 2), .ref (y 3), .int (z 4), .int (z 5)]))] H := hP
  have hD : va_D A [(h0, .inr (9, [.ref (y 0), .ref (y 1), .null])), (h1, .inr (2, [.ref (y 0), .ref (y 1), .ref (y 2), .ref (y 3), .int (z 4), .int (z 5)]))] := hD
  refine lv_aload_n hx hb dX9_init_20 rfl (lv_at hl 0 rfl) ?_
  refine lv_aload_n hx hb dX9_init_21 rfl (lv_at hl 2 rfl) ?_
  refine va_putF (D := D) (ci := 9) (v := .ref h2) (ty := .object "SteadyMachine$Heap") (C := RX9) (T := TX9) (N := 3) hx hb hts in_X9 tyX9 tyX9_ok nmX9 hown hK hP hD hS 0 rfl rfl 2 (by decide) k_7 (fun _ h9 => h9) rfl hin rfl (by decide +kernel) rfl rfl (Nat.le_of_ble_eq_true rfl) dX9_init_22 (fun H locs hP hD hS => ?_)
  have hP : va_P D vwCl [(h0, .inr (9, [.ref (y 0), .ref (y 1), .ref h2])), (h1, .inr (2, [.ref (y 0), .ref (y 1), .ref (y 2), .ref (y 3), .int (z 4), .int (z 5)]))] H := hP
  have hD : va_D A [(h0, .inr (9, [.ref (y 0), .ref (y 1), .ref h2])), (h1, .inr (2, [.ref (y 0), .ref (y 1), .ref (y 2), .ref (y 3), .int (z 4), .int (z 5)]))] := hD
  have hP9 := hP.sub (ws' := [(h0, .inr (9, [.ref (y 0), .ref (y 1), .ref h2])), (h1, .inr (2, [.ref (y 0), .ref (y 1), .ref (y 2), .ref (y 3), .int (z 4), .int (z 5)]))]) [0, 1] rfl
  have hD9 := hD.sub (ws' := [(h0, .inr (9, [.ref (y 0), .ref (y 1), .ref h2])), (h1, .inr (2, [.ref (y 0), .ref (y 1), .ref (y 2), .ref (y 3), .int (z 4), .int (z 5)]))]) [0, 1] (by decide) rfl
  have hK9 := hK.sub (tys' := []) [] rfl
  exact W.vret hx hb hr (fun t ht hW => ⟨⟨((fun j => 0), (fun _ => D.1 0)), rfl, trivial, by rw [ht]; exact hP9, va_K.moved hW.alike hK9, hD9⟩, hS.F ht⟩) hS.2.2 dX9_init_25
