theorem dX1_look_0 : decode cX1_look 0 = .ok (.aload_n 0, 1) := by decide +kernel
theorem dX1_look_1 : decode cX1_look 1 = .ok (.dup, 1) := by decide +kernel
theorem dX1_look_2 : decode cX1_look 2 = .ok (.getfield 75, 3) := by decide +kernel
theorem dX1_look_5 : decode cX1_look 5 = .ok (.iconst 1, 1) := by decide +kernel
theorem dX1_look_6 : decode cX1_look 6 = .ok (.iadd, 1) := by decide +kernel
theorem dX1_look_7 : decode cX1_look 7 = .ok (.putfield 75, 3) := by decide +kernel
theorem dX1_look_10 : decode cX1_look 10 = .ok (.iload_n 1, 1) := by decide +kernel
theorem dX1_look_11 : decode cX1_look 11 = .ok (.ifCond .le 21, 3) := by decide +kernel
theorem dX1_look_14 : decode cX1_look 14 = .ok (.iload_n 1, 1) := by decide +kernel
theorem dX1_look_15 : decode cX1_look 15 = .ok (.aload_n 0, 1) := by decide +kernel
theorem dX1_look_16 : decode cX1_look 16 = .ok (.getfield 9, 3) := by decide +kernel
theorem dX1_look_19 : decode cX1_look 19 = .ok (.arraylength, 1) := by decide +kernel
theorem dX1_look_20 : decode cX1_look 20 = .ok (.if_icmp .ge 12, 3) := by decide +kernel
theorem dX1_look_23 : decode cX1_look 23 = .ok (.aload_n 0, 1) := by decide +kernel
theorem dX1_look_24 : decode cX1_look 24 = .ok (.getfield 9, 3) := by decide +kernel
theorem dX1_look_27 : decode cX1_look 27 = .ok (.iload_n 1, 1) := by decide +kernel
theorem dX1_look_28 : decode cX1_look 28 = .ok (.laload, 1) := by decide +kernel
theorem dX1_look_29 : decode cX1_look 29 = .ok (.goto 4, 3) := by decide +kernel
theorem dX1_look_32 : decode cX1_look 32 = .ok (.lconst 0, 1) := by decide +kernel
theorem dX1_look_33 : decode cX1_look 33 = .ok (.lreturn, 1) := by decide +kernel
def mp_X1_look_33 (K : Int64 → sm_S → Prop) (σ : sm_S) (y0 : Int64) : Prop := K y0 σ
def mp_X1_look_32 (K : Int64 → sm_S → Prop) (σ : sm_S)  : Prop := mp_X1_look_33 K σ 0
/-- SteadyMachine$Heap.look(I)J -/
def mp_X1_look (σ : sm_S) (p1 : Int32) (K : Int64 → sm_S → Prop) : Prop := ((p1 ≤ 0 → (mp_X1_look_32 K (sm_i σ 13 ((σ.1 13) + 1)))) ∧ (¬ p1 ≤ 0 → (((nI (σ.2.2.1 17)) ≤ p1 → (mp_X1_look_32 K (sm_i σ 13 ((σ.1 13) + 1)))) ∧ (¬ (nI (σ.2.2.1 17)) ≤ p1 → (vp_in p1 (σ.2.2.1 17) ∧ mp_X1_look_33 K (sm_i σ 13 ((σ.1 13) + 1)) ((σ.2.2.2.2 17) p1.toNatClampNeg))))))
set_option maxHeartbeats 4000000 in
set_option maxRecDepth 100000 in
theorem c_X1_look (l : Launch) (D : va_G) (sz t0 : Nat) (σ : sm_S) (α : sm_A) (p1 : Int32) (K : Int64 → sm_S → Prop) (hF : mp_X1_look σ p1 K) : Met l yX1_look wsX1_look { frames := 0, cells := 0, slots := 0, locals := 0 } (sm_P sm_wX sm_tX 38 D sz t0 σ α [.ref (α.1 1), .int p1]) (va_Ql K (sm_B sm_wX D α) (sm_a α 38 sz)) 0 0 (sm_a α 38 sz) := by
  refine Met.ofW (cc := cX1_look) (maxL := 2) (ret := (some .long)) (by decide) rfl ?_
  intro p e s m args below meth c s₁ B hml hv
  obtain ⟨rfl, hsz, hP, hK, hD0, hE⟩ := hv
  have hx := B.exec
  have hb := B.bytes
  have hr := B.returns
  have hts := atoms_spec (ws := wsX1_look) B.pre
  have hown : s.vm.findClass RX1 = some m.cls := findClass_of_methodNamed B.named
  have hlocks := B.notSynchronized
  subst hsz
  have hD : sm_D (sm_a α 38 s.heap.size) α 38 := hD0.own
  have hA : ∀ q : Nat, s.heap.size ≤ q → sm_a α 38 s.heap.size q := fun q h => Or.inr h
  generalize hAe : sm_a α 38 s.heap.size = A at hD hA hE ⊢
  have hS : va_S A s.heap s.heap [] := va_S.rf
  have in_X1 : ∀ w ∈ wsX10, w ∈ wsX1_look := by decide +kernel
  have k_0 := hts (.fieldLink RX1 75 "SteadyMachine$Heap" "looks" "I") (by decide +kernel)
  have k_1 := hts (.fieldLink RX1 9 "SteadyMachine$Heap" "cells" "[J") (by decide +kernel)
  have hl := lv_entry ([.ref (α.1 1), .int p1]) (n := 2) (Nat.le_of_ble_eq_true rfl)
  rw [lg_entry_eq]
  generalize (lg_sl ([.ref (α.1 1), .int p1]) ++ List.replicate (2 - (lg_sl ([.ref (α.1 1), .int p1])).length) Slot.unset).toArray = ls at hl ⊢
  have hl : lv_has ls 2 [(0, .ref (α.1 1)), (1, .int p1)] := hl
  have B33 : ∀ (σ : sm_S) (y0 : Int64), mp_X1_look_33 K σ y0 → sm_J p l e (headSpec wsX1_look { frames := 0, cells := 0, slots := 0, locals := 0 }).room s m ([.ref (α.1 1), .int p1] : List Value).toArray below meth c (MQ below (va_Ql K (sm_B sm_wX D α) A) ([.ref (α.1 1), .int p1] : List Value).toArray s 0 0 A) D A 2 (sm_wX σ α) 33 [] [.long y0] := by
    intro σ y0 hF H locs ls hP hS hl
    unfold mp_X1_look_33 at hF
    exact W.lret (v := y0) hx hb hr (fun t ht hW => ⟨⟨y0, σ, rfl, hF, (by unfold sm_B; rw [ht]; exact hP)⟩, hS.F ht⟩) hS.2.2 dX1_look_33
  have B32 : ∀ (σ : sm_S), mp_X1_look_32 K σ → sm_J p l e (headSpec wsX1_look { frames := 0, cells := 0, slots := 0, locals := 0 }).room s m ([.ref (α.1 1), .int p1] : List Value).toArray below meth c (MQ below (va_Ql K (sm_B sm_wX D α) A) ([.ref (α.1 1), .int p1] : List Value).toArray s 0 0 A) D A 2 (sm_wX σ α) 32 [] [] := by
    intro σ hF H locs ls hP hS hl
    unfold mp_X1_look_32 at hF
    refine lv_lconst (v := 0) hx hb dX1_look_32 (by decide) ?_
    exact B33 σ 0 hF H locs ls hP hS (lv_sub hl [] rfl)
  unfold mp_X1_look at hF
  revert hP hS
  generalize hLo : ([] : List Loc) = locs
  suffices h9 : ∀ (H : Heap) (locs : List Loc), va_P D vwCl (sm_wX σ α) H → va_S A s.heap H locs → W p l e (headSpec wsX1_look { frames := 0, cells := 0, slots := 0, locals := 0 }).room s m ([.ref (α.1 1), .int p1] : List Value).toArray below meth c H locs 0 0 (MQ below (va_Ql K (sm_B sm_wX D α) A) ([.ref (α.1 1), .int p1] : List Value).toArray s 0 0 A) (F0 m 0 ls []) from fun hP hS => h9 s.heap locs hP hS
  intro H locs hP hS
  refine lv_aload_n hx hb dX1_look_0 rfl (lv_at hl 0 rfl) ?_
  refine lv_dup hx hb dX1_look_1 rfl ?_
  refine va_get (D := D) (ci := 1) (v := .int (σ.1 13)) (C := RX1) (T := TX1) (N := 16) hx hb hts in_X1 hown hK hP 1 rfl rfl 15 (by decide) k_0 (fun _ h9 => h9) rfl dX1_look_2 ?_
  refine lv_iconst (v := 1) hx hb dX1_look_5 (by decide) ?_
  refine lv_iadd hx hb dX1_look_6 ?_
  refine va_put (D := D) (ci := 1) (v := .int ((σ.1 13) + 1)) (ty := .int) (C := RX1) (T := TX1) (N := 16) hx hb hts in_X1 tyX1 tyX1_ok nmX1 hown hK hP (hD.to (sm_wX_m _ _)) hS 1 rfl rfl 15 (by decide) k_0 (fun _ h9 => h9) rfl (by decide +kernel) rfl rfl (Nat.le_of_ble_eq_true rfl) dX1_look_7 (fun H locs hP _ hS => ?_)
  have hP : va_P D vwCl (sm_wX (sm_i σ 13 ((σ.1 13) + 1)) α) H := hP
  refine lv_iload_n hx hb dX1_look_10 rfl (lv_at hl 1 rfl) ?_
  refine lv_if_le (tgt := 32) hx hb dX1_look_11 (by decide) (fun h1 => ?_) (fun h1 => ?_)
  · replace hF := hF.1 h1
    exact B32 (sm_i σ 13 ((σ.1 13) + 1)) hF H locs ls hP hS (lv_sub hl [] rfl)
  · replace hF := hF.2 h1
    refine lv_iload_n hx hb dX1_look_14 rfl (lv_at hl 1 rfl) ?_
    refine lv_aload_n hx hb dX1_look_15 rfl (lv_at hl 0 rfl) ?_
    refine va_get (D := D) (ci := 1) (v := .ref (α.1 17)) (C := RX1) (T := TX1) (N := 16) hx hb hts in_X1 hown hK hP 1 rfl rfl 2 (by decide) k_1 (fun _ h9 => h9) rfl dX1_look_16 ?_
    refine va_alen (v := nI (σ.2.2.1 17)) hx hb hK hP 17 6 rfl rfl rfl dX1_look_19 ?_
    refine lv_icmp_ge (tgt := 32) hx hb dX1_look_20 (by decide) (fun h2 => ?_) (fun h2 => ?_)
    · replace hF := hF.1 h2
      exact B32 (sm_i σ 13 ((σ.1 13) + 1)) hF H locs ls hP hS (lv_sub hl [] rfl)
    · replace hF := hF.2 h2
      refine lv_aload_n hx hb dX1_look_23 rfl (lv_at hl 0 rfl) ?_
      refine va_get (D := D) (ci := 1) (v := .ref (α.1 17)) (C := RX1) (T := TX1) (N := 16) hx hb hts in_X1 hown hK hP 1 rfl rfl 2 (by decide) k_1 (fun _ h9 => h9) rfl dX1_look_24 ?_
      refine lv_iload_n hx hb dX1_look_27 rfl (lv_at hl 1 rfl) ?_
      obtain ⟨h3, hF⟩ := hF
      refine va_lald (n := (σ.2.2.1 17)) (f := (σ.2.2.2.2 17)) hx hb hK hP 17 6 rfl rfl h3 dX1_look_28 ?_
      refine lv_goto (tgt := 33) hx hb dX1_look_29 (by decide) ?_
      exact B33 (sm_i σ 13 ((σ.1 13) + 1)) ((σ.2.2.2.2 17) p1.toNatClampNeg) hF H locs ls hP hS (lv_sub hl [] rfl)
theorem dX1_kind_0 : decode cX1_kind 0 = .ok (.lload_n 0, 1) := by decide +kernel
theorem dX1_kind_1 : decode cX1_kind 1 = .ok (.bipush 32, 2) := by decide +kernel
theorem dX1_kind_3 : decode cX1_kind 3 = .ok (.lshr, 1) := by decide +kernel
theorem dX1_kind_4 : decode cX1_kind 4 = .ok (.l2i, 1) := by decide +kernel
theorem dX1_kind_5 : decode cX1_kind 5 = .ok (.ireturn, 1) := by decide +kernel
/-- SteadyMachine$Heap.kind(J)I -/
def mp_X1_kind (σ : sm_S) (p1 : Int64) (K : Int32 → sm_S → Prop) : Prop := K ((p1 >>> ((32 : Int32).toInt64 &&& 63)).toInt32) σ
set_option maxHeartbeats 4000000 in
set_option maxRecDepth 100000 in
theorem c_X1_kind (l : Launch) (D : va_G) (sz t0 : Nat) (σ : sm_S) (α : sm_A) (p1 : Int64) (K : Int32 → sm_S → Prop) (hF : mp_X1_kind σ p1 K) : Met l yX1_kind wsX1_kind { frames := 0, cells := 0, slots := 0, locals := 0 } (sm_P sm_wX sm_tX 38 D sz t0 σ α [.long p1]) (va_Qi K (sm_B sm_wX D α) (sm_a α 38 sz)) 0 0 (sm_a α 38 sz) := by
  refine Met.ofW (cc := cX1_kind) (maxL := 2) (ret := (some .int)) (by decide) rfl ?_
  intro p e s m args below meth c s₁ B hml hv
  obtain ⟨rfl, hsz, hP, hK, hD0, hE⟩ := hv
  have hx := B.exec
  have hb := B.bytes
  have hr := B.returns
  have hts := atoms_spec (ws := wsX1_kind) B.pre
  have hown : s.vm.findClass RX1 = some m.cls := findClass_of_methodNamed B.named
  have hlocks := B.notSynchronized
  subst hsz
  have hD : sm_D (sm_a α 38 s.heap.size) α 38 := hD0.own
  have hA : ∀ q : Nat, s.heap.size ≤ q → sm_a α 38 s.heap.size q := fun q h => Or.inr h
  generalize hAe : sm_a α 38 s.heap.size = A at hD hA hE ⊢
  have hS : va_S A s.heap s.heap [] := va_S.rf
  have hl := lv_entry ([.long p1]) (n := 2) (Nat.le_of_ble_eq_true rfl)
  rw [lg_entry_eq]
  generalize (lg_sl ([.long p1]) ++ List.replicate (2 - (lg_sl ([.long p1])).length) Slot.unset).toArray = ls at hl ⊢
  have hl : lv_has ls 2 [(0, .long p1)] := hl
  unfold mp_X1_kind at hF
  revert hP hS
  generalize hLo : ([] : List Loc) = locs
  suffices h9 : ∀ (H : Heap) (locs : List Loc), va_P D vwCl (sm_wX σ α) H → va_S A s.heap H locs → W p l e (headSpec wsX1_kind { frames := 0, cells := 0, slots := 0, locals := 0 }).room s m ([.long p1] : List Value).toArray below meth c H locs 0 0 (MQ below (va_Qi K (sm_B sm_wX D α) A) ([.long p1] : List Value).toArray s 0 0 A) (F0 m 0 ls []) from fun hP hS => h9 s.heap locs hP hS
  intro H locs hP hS
  refine lv_lload_n hx hb dX1_kind_0 rfl (lv_at hl 0 rfl) ?_
  refine lv_bipush (v := 32) hx hb dX1_kind_1 (by decide) ?_
  refine lv_lshr hx hb dX1_kind_3 rfl ?_
  refine lv_l2i hx hb dX1_kind_4 rfl ?_
  exact W.iret (v := (p1 >>> ((32 : Int32).toInt64 &&& 63)).toInt32) hx hb hr (fun t ht hW => ⟨⟨(p1 >>> ((32 : Int32).toInt64 &&& 63)).toInt32, σ, rfl, hF, (by unfold sm_B; rw [ht]; exact hP)⟩, hS.F ht⟩) hS.2.2 dX1_kind_5
theorem dX1_cell_0 : decode cX1_cell 0 = .ok (.iload_n 0, 1) := by decide +kernel
theorem dX1_cell_1 : decode cX1_cell 1 = .ok (.i2l, 1) := by decide +kernel
theorem dX1_cell_2 : decode cX1_cell 2 = .ok (.bipush 32, 2) := by decide +kernel
theorem dX1_cell_4 : decode cX1_cell 4 = .ok (.lshl, 1) := by decide +kernel
theorem dX1_cell_5 : decode cX1_cell 5 = .ok (.iload_n 1, 1) := by decide +kernel
theorem dX1_cell_6 : decode cX1_cell 6 = .ok (.i2l, 1) := by decide +kernel
theorem dX1_cell_7 : decode cX1_cell 7 = .ok (.ldc2_w 21, 3) := by decide +kernel
theorem dX1_cell_10 : decode cX1_cell 10 = .ok (.land, 1) := by decide +kernel
theorem dX1_cell_11 : decode cX1_cell 11 = .ok (.lor, 1) := by decide +kernel
theorem dX1_cell_12 : decode cX1_cell 12 = .ok (.lreturn, 1) := by decide +kernel
/-- SteadyMachine$Heap.cell(II)J -/
def mp_X1_cell (σ : sm_S) (p1 : Int32) (p2 : Int32) (K : Int64 → sm_S → Prop) : Prop := K ((p1.toInt64 <<< ((32 : Int32).toInt64 &&& 63)) ||| (p2.toInt64 &&& 4294967295)) σ
set_option maxHeartbeats 4000000 in
set_option maxRecDepth 100000 in
theorem c_X1_cell (l : Launch) (D : va_G) (sz t0 : Nat) (σ : sm_S) (α : sm_A) (p1 : Int32) (p2 : Int32) (K : Int64 → sm_S → Prop) (hF : mp_X1_cell σ p1 p2 K) : Met l yX1_cell wsX1_cell { frames := 0, cells := 0, slots := 0, locals := 0 } (sm_P sm_wX sm_tX 38 D sz t0 σ α [.int p1, .int p2]) (va_Ql K (sm_B sm_wX D α) (sm_a α 38 sz)) 0 0 (sm_a α 38 sz) := by
  refine Met.ofW (cc := cX1_cell) (maxL := 2) (ret := (some .long)) (by decide) rfl ?_
  intro p e s m args below meth c s₁ B hml hv
  obtain ⟨rfl, hsz, hP, hK, hD0, hE⟩ := hv
  have hx := B.exec
  have hb := B.bytes
  have hr := B.returns
  have hts := atoms_spec (ws := wsX1_cell) B.pre
  have hown : s.vm.findClass RX1 = some m.cls := findClass_of_methodNamed B.named
  have hlocks := B.notSynchronized
  subst hsz
  have hD : sm_D (sm_a α 38 s.heap.size) α 38 := hD0.own
  have hA : ∀ q : Nat, s.heap.size ≤ q → sm_a α 38 s.heap.size q := fun q h => Or.inr h
  generalize hAe : sm_a α 38 s.heap.size = A at hD hA hE ⊢
  have hS : va_S A s.heap s.heap [] := va_S.rf
  have k_0 := hts (.constantLong RX1 21 (4294967295)) (by decide +kernel)
  have hl := lv_entry ([.int p1, .int p2]) (n := 2) (Nat.le_of_ble_eq_true rfl)
  rw [lg_entry_eq]
  generalize (lg_sl ([.int p1, .int p2]) ++ List.replicate (2 - (lg_sl ([.int p1, .int p2])).length) Slot.unset).toArray = ls at hl ⊢
  have hl : lv_has ls 2 [(0, .int p1), (1, .int p2)] := hl
  unfold mp_X1_cell at hF
  revert hP hS
  generalize hLo : ([] : List Loc) = locs
  suffices h9 : ∀ (H : Heap) (locs : List Loc), va_P D vwCl (sm_wX σ α) H → va_S A s.heap H locs → W p l e (headSpec wsX1_cell { frames := 0, cells := 0, slots := 0, locals := 0 }).room s m ([.int p1, .int p2] : List Value).toArray below meth c H locs 0 0 (MQ below (va_Ql K (sm_B sm_wX D α) A) ([.int p1, .int p2] : List Value).toArray s 0 0 A) (F0 m 0 ls []) from fun hP hS => h9 s.heap locs hP hS
  intro H locs hP hS
  refine lv_iload_n hx hb dX1_cell_0 rfl (lv_at hl 0 rfl) ?_
  refine lv_i2l hx hb dX1_cell_1 rfl ?_
  refine lv_bipush (v := 32) hx hb dX1_cell_2 (by decide) ?_
  refine lv_lshl hx hb dX1_cell_4 rfl ?_
  refine lv_iload_n hx hb dX1_cell_5 rfl (lv_at hl 1 rfl) ?_
  refine lv_i2l hx hb dX1_cell_6 rfl ?_
  refine lv_ldc2 (v := 4294967295) hx hb hown k_0 dX1_cell_7 ?_
  refine lv_land hx hb dX1_cell_10 ?_
  refine lv_lor hx hb dX1_cell_11 ?_
  exact W.lret (v := ((p1.toInt64 <<< ((32 : Int32).toInt64 &&& 63)) ||| (p2.toInt64 &&& 4294967295))) hx hb hr (fun t ht hW => ⟨⟨((p1.toInt64 <<< ((32 : Int32).toInt64 &&& 63)) ||| (p2.toInt64 &&& 4294967295)), σ, rfl, hF, (by unfold sm_B; rw [ht]; exact hP)⟩, hS.F ht⟩) hS.2.2 dX1_cell_12
theorem dX1_moved_0 : decode cX1_moved 0 = .ok (.aload_n 0, 1) := by decide +kernel
theorem dX1_moved_1 : decode cX1_moved 1 = .ok (.getfield 59, 3) := by decide +kernel
theorem dX1_moved_4 : decode cX1_moved 4 = .ok (.aload_n 0, 1) := by decide +kernel
theorem dX1_moved_5 : decode cX1_moved 5 = .ok (.getfield 56, 3) := by decide +kernel
theorem dX1_moved_8 : decode cX1_moved 8 = .ok (.isub, 1) := by decide +kernel
theorem dX1_moved_9 : decode cX1_moved 9 = .ok (.ireturn, 1) := by decide +kernel
/-- SteadyMachine$Heap.moved()I -/
def mp_X1_moved (σ : sm_S)  (K : Int32 → sm_S → Prop) : Prop := K ((σ.1 3) - (σ.1 2)) σ
set_option maxHeartbeats 4000000 in
set_option maxRecDepth 100000 in
theorem c_X1_moved (l : Launch) (D : va_G) (sz t0 : Nat) (σ : sm_S) (α : sm_A) (K : Int32 → sm_S → Prop) (hF : mp_X1_moved σ K) : Met l yX1_moved wsX1_moved { frames := 0, cells := 0, slots := 0, locals := 0 } (sm_P sm_wX sm_tX 38 D sz t0 σ α [.ref (α.1 1)]) (va_Qi K (sm_B sm_wX D α) (sm_a α 38 sz)) 0 0 (sm_a α 38 sz) := by
  refine Met.ofW (cc := cX1_moved) (maxL := 1) (ret := (some .int)) (by decide) rfl ?_
  intro p e s m args below meth c s₁ B hml hv
  obtain ⟨rfl, hsz, hP, hK, hD0, hE⟩ := hv
  have hx := B.exec
  have hb := B.bytes
  have hr := B.returns
  have hts := atoms_spec (ws := wsX1_moved) B.pre
  have hown : s.vm.findClass RX1 = some m.cls := findClass_of_methodNamed B.named
  have hlocks := B.notSynchronized
  subst hsz
  have hD : sm_D (sm_a α 38 s.heap.size) α 38 := hD0.own
  have hA : ∀ q : Nat, s.heap.size ≤ q → sm_a α 38 s.heap.size q := fun q h => Or.inr h
  generalize hAe : sm_a α 38 s.heap.size = A at hD hA hE ⊢
  have hS : va_S A s.heap s.heap [] := va_S.rf
  have in_X1 : ∀ w ∈ wsX10, w ∈ wsX1_moved := by decide +kernel
  have k_0 := hts (.fieldLink RX1 59 "SteadyMachine$Heap" "free" "I") (by decide +kernel)
  have k_1 := hts (.fieldLink RX1 56 "SteadyMachine$Heap" "base" "I") (by decide +kernel)
  have hl := lv_entry ([.ref (α.1 1)]) (n := 1) (Nat.le_of_ble_eq_true rfl)
  rw [lg_entry_eq]
  generalize (lg_sl ([.ref (α.1 1)]) ++ List.replicate (1 - (lg_sl ([.ref (α.1 1)])).length) Slot.unset).toArray = ls at hl ⊢
  have hl : lv_has ls 1 [(0, .ref (α.1 1))] := hl
  unfold mp_X1_moved at hF
  revert hP hS
  generalize hLo : ([] : List Loc) = locs
  suffices h9 : ∀ (H : Heap) (locs : List Loc), va_P D vwCl (sm_wX σ α) H → va_S A s.heap H locs → W p l e (headSpec wsX1_moved { frames := 0, cells := 0, slots := 0, locals := 0 }).room s m ([.ref (α.1 1)] : List Value).toArray below meth c H locs 0 0 (MQ below (va_Qi K (sm_B sm_wX D α) A) ([.ref (α.1 1)] : List Value).toArray s 0 0 A) (F0 m 0 ls []) from fun hP hS => h9 s.heap locs hP hS
  intro H locs hP hS
  refine lv_aload_n hx hb dX1_moved_0 rfl (lv_at hl 0 rfl) ?_
  refine va_get (D := D) (ci := 1) (v := .int (σ.1 3)) (C := RX1) (T := TX1) (N := 16) hx hb hts in_X1 hown hK hP 1 rfl rfl 5 (by decide) k_0 (fun _ h9 => h9) rfl dX1_moved_1 ?_
  refine lv_aload_n hx hb dX1_moved_4 rfl (lv_at hl 0 rfl) ?_
  refine va_get (D := D) (ci := 1) (v := .int (σ.1 2)) (C := RX1) (T := TX1) (N := 16) hx hb hts in_X1 hown hK hP 1 rfl rfl 4 (by decide) k_1 (fun _ h9 => h9) rfl dX1_moved_5 ?_
  refine lv_isub hx hb dX1_moved_8 ?_
  exact W.iret (v := ((σ.1 3) - (σ.1 2))) hx hb hr (fun t ht hW => ⟨⟨((σ.1 3) - (σ.1 2)), σ, rfl, hF, (by unfold sm_B; rw [ht]; exact hP)⟩, hS.F ht⟩) hS.2.2 dX1_moved_9
set_option maxRecDepth 20000 in
theorem ggX1_isDone_X1_moved : GoodIn wsX1_isDone wsX1_moved := goodIn_r _ [9, 2, 10, 11, 12, 13, 14, 15, 16, 17, 18, 19, 20, 21, 22, 23, 24, 25, 26] (by decide +kernel) (by decide +kernel)
set_option maxRecDepth 20000 in
theorem gX1_isDone_X1_moved : GoodIn wsX1_isDone (wsV RX1 71 RX1 yX1_moved wsX1_moved) := goodIn_app (goodIn_of _ (by decide +kernel)) ggX1_isDone_X1_moved
theorem dX1_isDone_0 : decode cX1_isDone 0 = .ok (.aload_n 0, 1) := by decide +kernel
theorem dX1_isDone_1 : decode cX1_isDone 1 = .ok (.getfield 62, 3) := by decide +kernel
theorem dX1_isDone_4 : decode cX1_isDone 4 = .ok (.aload_n 0, 1) := by decide +kernel
theorem dX1_isDone_5 : decode cX1_isDone 5 = .ok (.getfield 59, 3) := by decide +kernel
theorem dX1_isDone_8 : decode cX1_isDone 8 = .ok (.if_icmp .ne 23, 3) := by decide +kernel
theorem dX1_isDone_11 : decode cX1_isDone 11 = .ok (.aload_n 0, 1) := by decide +kernel
theorem dX1_isDone_12 : decode cX1_isDone 12 = .ok (.getfield 27, 3) := by decide +kernel
theorem dX1_isDone_15 : decode cX1_isDone 15 = .ok (.aload_n 0, 1) := by decide +kernel
theorem dX1_isDone_16 : decode cX1_isDone 16 = .ok (.getfield 68, 3) := by decide +kernel
theorem dX1_isDone_19 : decode cX1_isDone 19 = .ok (.imul, 1) := by decide +kernel
theorem dX1_isDone_20 : decode cX1_isDone 20 = .ok (.aload_n 0, 1) := by decide +kernel
theorem dX1_isDone_21 : decode cX1_isDone 21 = .ok (.invokevirtual 71, 3) := by decide +kernel
theorem dX1_isDone_24 : decode cX1_isDone 24 = .ok (.if_icmp .lt 7, 3) := by decide +kernel
theorem dX1_isDone_27 : decode cX1_isDone 27 = .ok (.iconst 1, 1) := by decide +kernel
theorem dX1_isDone_28 : decode cX1_isDone 28 = .ok (.goto 4, 3) := by decide +kernel
theorem dX1_isDone_31 : decode cX1_isDone 31 = .ok (.iconst 0, 1) := by decide +kernel
theorem dX1_isDone_32 : decode cX1_isDone 32 = .ok (.ireturn, 1) := by decide +kernel
def mp_X1_isDone_32 (K : Int32 → sm_S → Prop) (σ : sm_S) (y0 : Int32) : Prop := sm_z y0 ∧ K y0 σ
def mp_X1_isDone_31 (K : Int32 → sm_S → Prop) (σ : sm_S)  : Prop := mp_X1_isDone_32 K σ 0
/-- SteadyMachine$Heap.isDone()Z -/
def mp_X1_isDone (σ : sm_S)  (K : Int32 → sm_S → Prop) : Prop := ((¬ (σ.1 4) = (σ.1 3) → (mp_X1_isDone_31 K σ)) ∧ ((σ.1 4) = (σ.1 3) → (mp_X1_moved σ (fun r4 σ3 => ((((σ.1 6) * (σ.1 8)) < r4 → (mp_X1_isDone_31 K σ3)) ∧ (¬ ((σ.1 6) * (σ.1 8)) < r4 → (mp_X1_isDone_32 K σ3 1)))))))
set_option maxHeartbeats 4000000 in
set_option maxRecDepth 100000 in
theorem c_X1_isDone (l : Launch) (D : va_G) (sz t0 : Nat) (σ : sm_S) (α : sm_A) (K : Int32 → sm_S → Prop) (hF : mp_X1_isDone σ K) : Met l yX1_isDone wsX1_isDone { frames := 1, cells := 0, slots := 0, locals := 20 } (sm_P sm_wX sm_tX 38 D sz t0 σ α [.ref (α.1 1)]) (va_Qi K (sm_B sm_wX D α) (sm_a α 38 sz)) 0 0 (sm_a α 38 sz) := by
  refine Met.ofW (cc := cX1_isDone) (maxL := 1) (ret := (some .boolean)) (by decide) rfl ?_
  intro p e s m args below meth c s₁ B hml hv
  obtain ⟨rfl, hsz, hP, hK, hD0, hE⟩ := hv
  have hx := B.exec
  have hb := B.bytes
  have hr := B.returns
  have hts := atoms_spec (ws := wsX1_isDone) B.pre
  have hown : s.vm.findClass RX1 = some m.cls := findClass_of_methodNamed B.named
  have hlocks := B.notSynchronized
  subst hsz
  have hD : sm_D (sm_a α 38 s.heap.size) α 38 := hD0.own
  have hA : ∀ q : Nat, s.heap.size ≤ q → sm_a α 38 s.heap.size q := fun q h => Or.inr h
  generalize hAe : sm_a α 38 s.heap.size = A at hD hA hE ⊢
  have hS : va_S A s.heap s.heap [] := va_S.rf
  have in_X1 : ∀ w ∈ wsX10, w ∈ wsX1_isDone := by decide +kernel
  have k_0 := hts (.fieldLink RX1 62 "SteadyMachine$Heap" "scanned" "I") (by decide +kernel)
  have k_1 := hts (.fieldLink RX1 59 "SteadyMachine$Heap" "free" "I") (by decide +kernel)
  have k_2 := hts (.fieldLink RX1 27 "SteadyMachine$Heap" "k" "I") (by decide +kernel)
  have k_3 := hts (.fieldLink RX1 68 "SteadyMachine$Heap" "made" "I") (by decide +kernel)
  have hl := lv_entry ([.ref (α.1 1)]) (n := 1) (Nat.le_of_ble_eq_true rfl)
  rw [lg_entry_eq]
  generalize (lg_sl ([.ref (α.1 1)]) ++ List.replicate (1 - (lg_sl ([.ref (α.1 1)])).length) Slot.unset).toArray = ls at hl ⊢
  have hl : lv_has ls 1 [(0, .ref (α.1 1))] := hl
  have B32 : ∀ (σ : sm_S) (y0 : Int32), mp_X1_isDone_32 K σ y0 → sm_J p l e (headSpec wsX1_isDone { frames := 1, cells := 0, slots := 0, locals := 20 }).room s m ([.ref (α.1 1)] : List Value).toArray below meth c (MQ below (va_Qi K (sm_B sm_wX D α) A) ([.ref (α.1 1)] : List Value).toArray s 0 0 A) D A 1 (sm_wX σ α) 32 [] [.int y0] := by
    intro σ y0 hF H locs ls hP hS hl
    unfold mp_X1_isDone_32 at hF
    obtain ⟨h1, hF⟩ := hF
    exact W.zret (v := y0) hx hb hr h1.1 (fun t ht hW => ⟨⟨y0, σ, rfl, hF, (by unfold sm_B; rw [ht]; exact hP)⟩, hS.F ht⟩) hS.2.2 dX1_isDone_32
  have B31 : ∀ (σ : sm_S), mp_X1_isDone_31 K σ → sm_J p l e (headSpec wsX1_isDone { frames := 1, cells := 0, slots := 0, locals := 20 }).room s m ([.ref (α.1 1)] : List Value).toArray below meth c (MQ below (va_Qi K (sm_B sm_wX D α) A) ([.ref (α.1 1)] : List Value).toArray s 0 0 A) D A 1 (sm_wX σ α) 31 [] [] := by
    intro σ hF H locs ls hP hS hl
    unfold mp_X1_isDone_31 at hF
    refine lv_iconst (v := 0) hx hb dX1_isDone_31 (by decide) ?_
    exact B32 σ 0 hF H locs ls hP hS (lv_sub hl [] rfl)
  unfold mp_X1_isDone at hF
  revert hP hS
  generalize hLo : ([] : List Loc) = locs
  suffices h9 : ∀ (H : Heap) (locs : List Loc), va_P D vwCl (sm_wX σ α) H → va_S A s.heap H locs → W p l e (headSpec wsX1_isDone { frames := 1, cells := 0, slots := 0, locals := 20 }).room s m ([.ref (α.1 1)] : List Value).toArray below meth c H locs 0 0 (MQ below (va_Qi K (sm_B sm_wX D α) A) ([.ref (α.1 1)] : List Value).toArray s 0 0 A) (F0 m 0 ls []) from fun hP hS => h9 s.heap locs hP hS
  intro H locs hP hS
  refine lv_aload_n hx hb dX1_isDone_0 rfl (lv_at hl 0 rfl) ?_
  refine va_get (D := D) (ci := 1) (v := .int (σ.1 4)) (C := RX1) (T := TX1) (N := 16) hx hb hts in_X1 hown hK hP 1 rfl rfl 6 (by decide) k_0 (fun _ h9 => h9) rfl dX1_isDone_1 ?_
  refine lv_aload_n hx hb dX1_isDone_4 rfl (lv_at hl 0 rfl) ?_
  refine va_get (D := D) (ci := 1) (v := .int (σ.1 3)) (C := RX1) (T := TX1) (N := 16) hx hb hts in_X1 hown hK hP 1 rfl rfl 5 (by decide) k_1 (fun _ h9 => h9) rfl dX1_isDone_5 ?_
  refine lv_icmp_ne (tgt := 31) hx hb dX1_isDone_8 (by decide) (fun h2 => ?_) (fun h2 => ?_)
  · replace hF := hF.1 h2
    exact B31 σ hF H locs ls hP hS (lv_sub hl [] rfl)
  · replace hF := hF.2 h2
    refine lv_aload_n hx hb dX1_isDone_11 rfl (lv_at hl 0 rfl) ?_
    refine va_get (D := D) (ci := 1) (v := .int (σ.1 6)) (C := RX1) (T := TX1) (N := 16) hx hb hts in_X1 hown hK hP 1 rfl rfl 8 (by decide) k_2 (fun _ h9 => h9) rfl dX1_isDone_12 ?_
    refine lv_aload_n hx hb dX1_isDone_15 rfl (lv_at hl 0 rfl) ?_
    refine va_get (D := D) (ci := 1) (v := .int (σ.1 8)) (C := RX1) (T := TX1) (N := 16) hx hb hts in_X1 hown hK hP 1 rfl rfl 10 (by decide) k_3 (fun _ h9 => h9) rfl dX1_isDone_16 ?_
    refine lv_imul hx hb dX1_isDone_19 ?_
    refine lv_aload_n hx hb dX1_isDone_20 rfl (lv_at hl 0 rfl) ?_
    refine sm_vi (As := []) (rest := [.int ((σ.1 6) * (σ.1 8))]) hP hK hD hE hS hA ⟨hx, hb, hml, hown, hts⟩ hl.1 (c_X1_moved l D H.size t0 σ α _ hF) (cwV 0 hts gX1_isDone_X1_moved rfl rfl rfl (by decide +kernel) ⟨Nat.le_of_ble_eq_true rfl, Nat.le_of_ble_eq_true rfl⟩) (va_recv hK hP (ci := 1) (q0 := 1) rfl rfl) rfl rfl (Nat.le_of_ble_eq_true rfl) dX1_isDone_21 ⟨Nat.zero_le _, Nat.zero_le _⟩ (fun r4 σ3 H locs hF hP hS => ?_)
    refine lv_icmp_lt (tgt := 31) hx hb dX1_isDone_24 (by decide) (fun h5 => ?_) (fun h5 => ?_)
    · replace hF := hF.1 h5
      exact B31 σ3 hF H locs ls hP hS (lv_sub hl [] rfl)
    · replace hF := hF.2 h5
      refine lv_iconst (v := 1) hx hb dX1_isDone_27 (by decide) ?_
      refine lv_goto (tgt := 32) hx hb dX1_isDone_28 (by decide) ?_
      exact B32 σ3 1 hF H locs ls hP hS (lv_sub hl [] rfl)
theorem dX5_add_0 : decode cX5_add 0 = .ok (.aload_n 0, 1) := by decide +kernel
theorem dX5_add_1 : decode cX5_add 1 = .ok (.getfield 18, 3) := by decide +kernel
theorem dX5_add_4 : decode cX5_add 4 = .ok (.sipush 1000, 3) := by decide +kernel
theorem dX5_add_7 : decode cX5_add 7 = .ok (.if_icmp .lt 6, 3) := by decide +kernel
theorem dX5_add_10 : decode cX5_add 10 = .ok (.bipush (-2), 2) := by decide +kernel
theorem dX5_add_12 : decode cX5_add 12 = .ok (.ireturn, 1) := by decide +kernel
theorem dX5_add_13 : decode cX5_add 13 = .ok (.aload_n 0, 1) := by decide +kernel
theorem dX5_add_14 : decode cX5_add 14 = .ok (.getfield 9, 3) := by decide +kernel
theorem dX5_add_17 : decode cX5_add 17 = .ok (.aload_n 0, 1) := by decide +kernel
theorem dX5_add_18 : decode cX5_add 18 = .ok (.getfield 18, 3) := by decide +kernel
theorem dX5_add_21 : decode cX5_add 21 = .ok (.iload_n 1, 1) := by decide +kernel
theorem dX5_add_22 : decode cX5_add 22 = .ok (.iastore, 1) := by decide +kernel
theorem dX5_add_23 : decode cX5_add 23 = .ok (.aload_n 0, 1) := by decide +kernel
theorem dX5_add_24 : decode cX5_add 24 = .ok (.dup, 1) := by decide +kernel
theorem dX5_add_25 : decode cX5_add 25 = .ok (.getfield 18, 3) := by decide +kernel
theorem dX5_add_28 : decode cX5_add 28 = .ok (.iconst 1, 1) := by decide +kernel
theorem dX5_add_29 : decode cX5_add 29 = .ok (.iadd, 1) := by decide +kernel
theorem dX5_add_30 : decode cX5_add 30 = .ok (.putfield 18, 3) := by decide +kernel
theorem dX5_add_33 : decode cX5_add 33 = .ok (.aload_n 0, 1) := by decide +kernel
theorem dX5_add_34 : decode cX5_add 34 = .ok (.getfield 18, 3) := by decide +kernel
theorem dX5_add_37 : decode cX5_add 37 = .ok (.ireturn, 1) := by decide +kernel
/-- SteadyMachine$Ports.add(I)I -/
def mp_X5_add (σ : sm_S) (p1 : Int32) (K : Int32 → sm_S → Prop) : Prop := (((σ.1 18) < 1000 → (vp_in (σ.1 18) (σ.2.2.1 30) ∧ K ((σ.1 18) + 1) (sm_i (sm_r σ 30 (upd (σ.2.2.2.1 30) (σ.1 18).toNatClampNeg p1)) 18 ((σ.1 18) + 1)))) ∧ (¬ (σ.1 18) < 1000 → (K (-2) σ)))
set_option maxHeartbeats 4000000 in
set_option maxRecDepth 100000 in
theorem c_X5_add (l : Launch) (D : va_G) (sz t0 : Nat) (σ : sm_S) (α : sm_A) (p1 : Int32) (K : Int32 → sm_S → Prop) (hF : mp_X5_add σ p1 K) : Met l yX5_add wsX5_add { frames := 0, cells := 0, slots := 0, locals := 0 } (sm_P sm_wX sm_tX 38 D sz t0 σ α [.ref (α.1 5), .int p1]) (va_Qi K (sm_B sm_wX D α) (sm_a α 38 sz)) 0 0 (sm_a α 38 sz) := by
  refine Met.ofW (cc := cX5_add) (maxL := 2) (ret := (some .int)) (by decide) rfl ?_
  intro p e s m args below meth c s₁ B hml hv
  obtain ⟨rfl, hsz, hP, hK, hD0, hE⟩ := hv
  have hx := B.exec
  have hb := B.bytes
  have hr := B.returns
  have hts := atoms_spec (ws := wsX5_add) B.pre
  have hown : s.vm.findClass RX5 = some m.cls := findClass_of_methodNamed B.named
  have hlocks := B.notSynchronized
  subst hsz
  have hD : sm_D (sm_a α 38 s.heap.size) α 38 := hD0.own
  have hA : ∀ q : Nat, s.heap.size ≤ q → sm_a α 38 s.heap.size q := fun q h => Or.inr h
  generalize hAe : sm_a α 38 s.heap.size = A at hD hA hE ⊢
  have hS : va_S A s.heap s.heap [] := va_S.rf
  have in_X5 : ∀ w ∈ wsX50, w ∈ wsX5_add := by decide +kernel
  have k_0 := hts (.fieldLink RX5 18 "SteadyMachine$Ports" "inputs" "I") (by decide +kernel)
  have k_1 := hts (.fieldLink RX5 9 "SteadyMachine$Ports" "ins" "[I") (by decide +kernel)
  have hl := lv_entry ([.ref (α.1 5), .int p1]) (n := 2) (Nat.le_of_ble_eq_true rfl)
  rw [lg_entry_eq]
  generalize (lg_sl ([.ref (α.1 5), .int p1]) ++ List.replicate (2 - (lg_sl ([.ref (α.1 5), .int p1])).length) Slot.unset).toArray = ls at hl ⊢
  have hl : lv_has ls 2 [(0, .ref (α.1 5)), (1, .int p1)] := hl
  unfold mp_X5_add at hF
  revert hP hS
  generalize hLo : ([] : List Loc) = locs
  suffices h9 : ∀ (H : Heap) (locs : List Loc), va_P D vwCl (sm_wX σ α) H → va_S A s.heap H locs → W p l e (headSpec wsX5_add { frames := 0, cells := 0, slots := 0, locals := 0 }).room s m ([.ref (α.1 5), .int p1] : List Value).toArray below meth c H locs 0 0 (MQ below (va_Qi K (sm_B sm_wX D α) A) ([.ref (α.1 5), .int p1] : List Value).toArray s 0 0 A) (F0 m 0 ls []) from fun hP hS => h9 s.heap locs hP hS
  intro H locs hP hS
  refine lv_aload_n hx hb dX5_add_0 rfl (lv_at hl 0 rfl) ?_
  refine va_get (D := D) (ci := 5) (v := .int (σ.1 18)) (C := RX5) (T := TX5) (N := 5) hx hb hts in_X5 hown hK hP 5 rfl rfl 1 (by decide) k_0 (fun _ h9 => h9) rfl dX5_add_1 ?_
  refine lv_sipush (v := 1000) hx hb dX5_add_4 (by decide) ?_
  refine lv_icmp_lt (tgt := 13) hx hb dX5_add_7 (by decide) (fun h1 => ?_) (fun h1 => ?_)
  · replace hF := hF.1 h1
    refine lv_aload_n hx hb dX5_add_13 rfl (lv_at hl 0 rfl) ?_
    refine va_get (D := D) (ci := 5) (v := .ref (α.1 30)) (C := RX5) (T := TX5) (N := 5) hx hb hts in_X5 hown hK hP 5 rfl rfl 0 (by decide) k_1 (fun _ h9 => h9) rfl dX5_add_14 ?_
    refine lv_aload_n hx hb dX5_add_17 rfl (lv_at hl 0 rfl) ?_
    refine va_get (D := D) (ci := 5) (v := .int (σ.1 18)) (C := RX5) (T := TX5) (N := 5) hx hb hts in_X5 hown hK hP 5 rfl rfl 1 (by decide) k_0 (fun _ h9 => h9) rfl dX5_add_18 ?_
    refine lv_iload_n hx hb dX5_add_21 rfl (lv_at hl 1 rfl) ?_
    obtain ⟨h2, hF⟩ := hF
    refine va_iast (n := (σ.2.2.1 30)) (f := (σ.2.2.2.1 30)) (x := p1) hx hb hK hP (hD.to (sm_wX_m _ _)) hS 30 19 rfl rfl h2 dX5_add_22 (fun H locs hP _ hS => ?_)
    have hP : va_P D vwCl (sm_wX (sm_r σ 30 (upd (σ.2.2.2.1 30) (σ.1 18).toNatClampNeg p1)) α) H := hP
    refine lv_aload_n hx hb dX5_add_23 rfl (lv_at hl 0 rfl) ?_
    refine lv_dup hx hb dX5_add_24 rfl ?_
    refine va_get (D := D) (ci := 5) (v := .int (σ.1 18)) (C := RX5) (T := TX5) (N := 5) hx hb hts in_X5 hown hK hP 5 rfl rfl 1 (by decide) k_0 (fun _ h9 => h9) rfl dX5_add_25 ?_
    refine lv_iconst (v := 1) hx hb dX5_add_28 (by decide) ?_
    refine lv_iadd hx hb dX5_add_29 ?_
    refine va_put (D := D) (ci := 5) (v := .int ((σ.1 18) + 1)) (ty := .int) (C := RX5) (T := TX5) (N := 5) hx hb hts in_X5 tyX5 tyX5_ok nmX5 hown hK hP (hD.to (sm_wX_m _ _)) hS 5 rfl rfl 1 (by decide) k_0 (fun _ h9 => h9) rfl (by decide +kernel) rfl rfl (Nat.le_of_ble_eq_true rfl) dX5_add_30 (fun H locs hP _ hS => ?_)
    have hP : va_P D vwCl (sm_wX (sm_i (sm_r σ 30 (upd (σ.2.2.2.1 30) (σ.1 18).toNatClampNeg p1)) 18 ((σ.1 18) + 1)) α) H := hP
    refine lv_aload_n hx hb dX5_add_33 rfl (lv_at hl 0 rfl) ?_
    refine va_get (D := D) (ci := 5) (v := .int ((σ.1 18) + 1)) (C := RX5) (T := TX5) (N := 5) hx hb hts in_X5 hown hK hP 5 rfl rfl 1 (by decide) k_0 (fun _ h9 => h9) rfl dX5_add_34 ?_
    exact W.iret (v := ((σ.1 18) + 1)) hx hb hr (fun t ht hW => ⟨⟨((σ.1 18) + 1), (sm_i (sm_r σ 30 (upd (σ.2.2.2.1 30) (σ.1 18).toNatClampNeg p1)) 18 ((σ.1 18) + 1)), rfl, hF, (by unfold sm_B; rw [ht]; exact hP)⟩, hS.F ht⟩) hS.2.2 dX5_add_37
  · replace hF := hF.2 h1
    refine lv_bipush (v := -2) hx hb dX5_add_10 (by decide) ?_
    exact W.iret (v := (-2)) hx hb hr (fun t ht hW => ⟨⟨(-2), σ, rfl, hF, (by unfold sm_B; rw [ht]; exact hP)⟩, hS.F ht⟩) hS.2.2 dX5_add_12
