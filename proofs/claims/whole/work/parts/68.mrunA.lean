theorem dX12_input_0 : decode cX12_input 0 = .ok (.aload_n 0, 1) := by decide +kernel
theorem dX12_input_1 : decode cX12_input 1 = .ok (.getfield 227, 3) := by decide +kernel
theorem dX12_input_4 : decode cX12_input 4 = .ok (.sipush 1000, 3) := by decide +kernel
theorem dX12_input_7 : decode cX12_input 7 = .ok (.if_icmp .ne 6, 3) := by decide +kernel
theorem dX12_input_10 : decode cX12_input 10 = .ok (.bipush (-2), 2) := by decide +kernel
theorem dX12_input_12 : decode cX12_input 12 = .ok (.ireturn, 1) := by decide +kernel
theorem dX12_input_13 : decode cX12_input 13 = .ok (.aload_n 0, 1) := by decide +kernel
theorem dX12_input_14 : decode cX12_input 14 = .ok (.getfield 221, 3) := by decide +kernel
theorem dX12_input_17 : decode cX12_input 17 = .ok (.aload_n 0, 1) := by decide +kernel
theorem dX12_input_18 : decode cX12_input 18 = .ok (.getfield 227, 3) := by decide +kernel
theorem dX12_input_21 : decode cX12_input 21 = .ok (.iload_n 1, 1) := by decide +kernel
theorem dX12_input_22 : decode cX12_input 22 = .ok (.iastore, 1) := by decide +kernel
theorem dX12_input_23 : decode cX12_input 23 = .ok (.aload_n 0, 1) := by decide +kernel
theorem dX12_input_24 : decode cX12_input 24 = .ok (.dup, 1) := by decide +kernel
theorem dX12_input_25 : decode cX12_input 25 = .ok (.getfield 227, 3) := by decide +kernel
theorem dX12_input_28 : decode cX12_input 28 = .ok (.iconst 1, 1) := by decide +kernel
theorem dX12_input_29 : decode cX12_input 29 = .ok (.iadd, 1) := by decide +kernel
theorem dX12_input_30 : decode cX12_input 30 = .ok (.putfield 227, 3) := by decide +kernel
theorem dX12_input_33 : decode cX12_input 33 = .ok (.aload_n 0, 1) := by decide +kernel
theorem dX12_input_34 : decode cX12_input 34 = .ok (.getfield 227, 3) := by decide +kernel
theorem dX12_input_37 : decode cX12_input 37 = .ok (.ireturn, 1) := by decide +kernel
def wp_X12_input : List Cond := .code yX12_input cX12_input 2 (some .int) :: ([.fieldLink RX12 227 "SteadyMachineModel" "inputs" "I", .fieldLink RX12 221 "SteadyMachineModel" "input" "[I"] ++ wsX120)
theorem wq_X12_input : wp_X12_input.all goodWord = true := wa_c rfl (wa_a (by decide +kernel) uq_X12)
theorem wt_X12_input : GoodIn lw_tbl wp_X12_input := wm_c (List.mem_of_getElem? (i := 1620) (by decide +kernel)) rfl (wm_a (goodIn_r _ [1519, 1520] (by decide +kernel) (by decide +kernel)) ut_X12)
theorem wi_X12_input_X12 : ∀ w ∈ wsX120, w ∈ wp_X12_input := fun w h => List.mem_cons_of_mem _ (List.mem_append_right _ h)
set_option maxHeartbeats 4000000 in
set_option maxRecDepth 100000 in
theorem c_X12_input (l : Launch) (D : va_G) (sz t0 : Nat) (σ : sm_S) (α : sm_A) (p1 : Int32) (K : Int32 → sm_S → Prop) (hF : mp_X12_input σ p1 K) : Met l yX12_input wp_X12_input { frames := 0, cells := 0, slots := 0, locals := 0 } (sm_P sm_wM sm_tM 40 D sz t0 σ α [.ref (α.1 1), .int p1]) (va_Qi K (sm_B sm_wM D α) (sm_a α 40 sz)) 0 0 (sm_a α 40 sz) := by
  refine Met.ofW (cc := cX12_input) (maxL := 2) (ret := (some .int)) (by decide) rfl ?_
  intro p e s m args below meth c s₁ B hml hv
  obtain ⟨rfl, hsz, hP, hK, hD0, hE⟩ := hv
  have hx := B.exec
  have hb := B.bytes
  have hr := B.returns
  have hts := atoms_spec (ws := wp_X12_input) B.pre
  have hown : s.vm.findClass RX12 = some m.cls := findClass_of_methodNamed B.named
  have hlocks := B.notSynchronized
  subst hsz
  have hD : sm_D (sm_a α 40 s.heap.size) α 40 := hD0.own
  have hA : ∀ q : Nat, s.heap.size ≤ q → sm_a α 40 s.heap.size q := fun q h => Or.inr h
  generalize hAe : sm_a α 40 s.heap.size = A at hD hA hE ⊢
  have hS : va_S A s.heap s.heap [] := va_S.rf
  have in_X12 : ∀ w ∈ wsX120, w ∈ wp_X12_input := wi_X12_input_X12
  have k_0 := hts (.fieldLink RX12 227 "SteadyMachineModel" "inputs" "I") (by decide +kernel)
  have k_1 := hts (.fieldLink RX12 221 "SteadyMachineModel" "input" "[I") (by decide +kernel)
  have hl := lv_entry ([.ref (α.1 1), .int p1]) (n := 2) (Nat.le_of_ble_eq_true rfl)
  rw [lg_entry_eq]
  generalize (lg_sl ([.ref (α.1 1), .int p1]) ++ List.replicate (2 - (lg_sl ([.ref (α.1 1), .int p1])).length) Slot.unset).toArray = ls at hl ⊢
  have hl : lv_has ls 2 [(0, .ref (α.1 1)), (1, .int p1)] := hl
  unfold mp_X12_input at hF
  revert hP hS
  generalize hLo : ([] : List Loc) = locs
  suffices h9 : ∀ (H : Heap) (locs : List Loc), va_P D vwCl (sm_wM σ α) H → va_S A s.heap H locs → W p l e (headSpec wp_X12_input { frames := 0, cells := 0, slots := 0, locals := 0 }).room s m ([.ref (α.1 1), .int p1] : List Value).toArray below meth c H locs 0 0 (MQ below (va_Qi K (sm_B sm_wM D α) A) ([.ref (α.1 1), .int p1] : List Value).toArray s 0 0 A) (F0 m 0 ls []) from fun hP hS => h9 s.heap locs hP hS
  intro H locs hP hS
  refine lv_aload_n hx hb dX12_input_0 rfl (lv_at hl 0 rfl) ?_
  refine va_get (D := D) (ci := 12) (v := .int (σ.1 19)) (C := RX12) (T := TX12) (N := 42) hx hb hts in_X12 hown hK hP 1 (sm_gX12 σ α) rfl 29 (by decide) k_0 (fun _ h9 => h9) rfl dX12_input_1 ?_
  refine lv_sipush (v := 1000) hx hb dX12_input_4 (by decide) ?_
  refine lv_icmp_ne (tgt := 13) hx hb dX12_input_7 (by decide) (fun h1 => ?_) (fun h1 => ?_)
  · replace hF := hF.1 h1
    refine lv_aload_n hx hb dX12_input_13 rfl (lv_at hl 0 rfl) ?_
    refine va_get (D := D) (ci := 12) (v := .ref (α.1 38)) (C := RX12) (T := TX12) (N := 42) hx hb hts in_X12 hown hK hP 1 (sm_gX12 σ α) rfl 30 (by decide) k_1 (fun _ h9 => h9) rfl dX12_input_14 ?_
    refine lv_aload_n hx hb dX12_input_17 rfl (lv_at hl 0 rfl) ?_
    refine va_get (D := D) (ci := 12) (v := .int (σ.1 19)) (C := RX12) (T := TX12) (N := 42) hx hb hts in_X12 hown hK hP 1 (sm_gX12 σ α) rfl 29 (by decide) k_0 (fun _ h9 => h9) rfl dX12_input_18 ?_
    refine lv_iload_n hx hb dX12_input_21 rfl (lv_at hl 1 rfl) ?_
    obtain ⟨h2, hF⟩ := hF
    refine va_iast (n := (σ.2.2.1 38)) (f := (σ.2.2.2.1 38)) (x := p1) hx hb hK hP (hD.to (sm_wM_m _ _)) hS 38 36 (sm_aM38 σ α) (sm_yM38 α) h2 dX12_input_22 (fun H locs hP _ hS => ?_)
    rw [sm_rM38] at hP
    obtain ⟨σ3, eσ3⟩ : ∃ x : sm_S, x = sm_r σ 38 (upd (σ.2.2.2.1 38) (σ.1 19).toNatClampNeg p1) := ⟨_, rfl⟩
    replace hF := hF σ3 eσ3
    rw [← eσ3] at hP
    refine lv_aload_n hx hb dX12_input_23 rfl (lv_at hl 0 rfl) ?_
    refine lv_dup hx hb dX12_input_24 rfl ?_
    refine va_get (D := D) (ci := 12) (v := .int (σ3.1 19)) (C := RX12) (T := TX12) (N := 42) hx hb hts in_X12 hown hK hP 1 (sm_gX12 σ3 α) rfl 29 (by decide) k_0 (fun _ h9 => h9) rfl dX12_input_25 ?_
    refine lv_iconst (v := 1) hx hb dX12_input_28 (by decide) ?_
    refine lv_iadd hx hb dX12_input_29 ?_
    refine va_put (D := D) (ci := 12) (v := .int ((σ3.1 19) + 1)) (ty := .int) (C := RX12) (T := TX12) (N := 42) hx hb hts in_X12 tyX12 tyX12_ok nmX12 hown hK hP (hD.to (sm_wM_m _ _)) hS 1 (sm_gX12 σ3 α) rfl 29 (by decide) k_0 (fun _ h9 => h9) rfl (by decide +kernel) rfl rfl (Nat.le_of_ble_eq_true rfl) dX12_input_30 (fun H locs hP _ hS => ?_)
    rw [sm_iM19] at hP
    obtain ⟨σ4, eσ4⟩ : ∃ x : sm_S, x = sm_i σ3 19 ((σ3.1 19) + 1) := ⟨_, rfl⟩
    replace hF := hF σ4 eσ4
    rw [← eσ4] at hP
    refine lv_aload_n hx hb dX12_input_33 rfl (lv_at hl 0 rfl) ?_
    refine va_get (D := D) (ci := 12) (v := .int (σ4.1 19)) (C := RX12) (T := TX12) (N := 42) hx hb hts in_X12 hown hK hP 1 (sm_gX12 σ4 α) rfl 29 (by decide) k_0 (fun _ h9 => h9) rfl dX12_input_34 ?_
    exact W.iret (v := (σ4.1 19)) hx hb hr (fun t ht hW => ⟨⟨(σ4.1 19), σ4, rfl, hF, (by unfold sm_B; rw [ht]; exact hP)⟩, hS.F ht⟩) hS.2.2 dX12_input_37
  · replace hF := hF.2 h1
    refine lv_bipush (v := -2) hx hb dX12_input_10 (by decide) ?_
    exact W.iret (v := (-2)) hx hb hr (fun t ht hW => ⟨⟨(-2), σ, rfl, hF, (by unfold sm_B; rw [ht]; exact hP)⟩, hS.F ht⟩) hS.2.2 dX12_input_12
theorem dX12_clear_0 : decode cX12_clear 0 = .ok (.aload_n 0, 1) := by decide +kernel
theorem dX12_clear_1 : decode cX12_clear 1 = .ok (.iconst 0, 1) := by decide +kernel
theorem dX12_clear_2 : decode cX12_clear 2 = .ok (.putfield 227, 3) := by decide +kernel
theorem dX12_clear_5 : decode cX12_clear 5 = .ok (.return_, 1) := by decide +kernel
def wp_X12_clear : List Cond := .code yX12_clear cX12_clear 1 none :: ([.fieldLink RX12 227 "SteadyMachineModel" "inputs" "I"] ++ wsX120)
theorem wq_X12_clear : wp_X12_clear.all goodWord = true := wa_c rfl (wa_a (by decide +kernel) uq_X12)
theorem wt_X12_clear : GoodIn lw_tbl wp_X12_clear := wm_c (List.mem_of_getElem? (i := 1624) (by decide +kernel)) rfl (wm_a (goodIn_r _ [1519] (by decide +kernel) (by decide +kernel)) ut_X12)
theorem wi_X12_clear_X12 : ∀ w ∈ wsX120, w ∈ wp_X12_clear := fun w h => List.mem_cons_of_mem _ (List.mem_append_right _ h)
set_option maxHeartbeats 4000000 in
set_option maxRecDepth 100000 in
theorem c_X12_clear (l : Launch) (D : va_G) (sz t0 : Nat) (σ : sm_S) (α : sm_A) (K : sm_S → Prop) (hF : mp_X12_clear σ K) : Met l yX12_clear wp_X12_clear { frames := 0, cells := 0, slots := 0, locals := 0 } (sm_P sm_wM sm_tM 40 D sz t0 σ α [.ref (α.1 1)]) (va_Qv K (sm_B sm_wM D α) (sm_a α 40 sz)) 0 0 (sm_a α 40 sz) := by
  refine Met.ofW (cc := cX12_clear) (maxL := 1) (ret := none) (by decide) rfl ?_
  intro p e s m args below meth c s₁ B hml hv
  obtain ⟨rfl, hsz, hP, hK, hD0, hE⟩ := hv
  have hx := B.exec
  have hb := B.bytes
  have hr := B.returns
  have hts := atoms_spec (ws := wp_X12_clear) B.pre
  have hown : s.vm.findClass RX12 = some m.cls := findClass_of_methodNamed B.named
  have hlocks := B.notSynchronized
  subst hsz
  have hD : sm_D (sm_a α 40 s.heap.size) α 40 := hD0.own
  have hA : ∀ q : Nat, s.heap.size ≤ q → sm_a α 40 s.heap.size q := fun q h => Or.inr h
  generalize hAe : sm_a α 40 s.heap.size = A at hD hA hE ⊢
  have hS : va_S A s.heap s.heap [] := va_S.rf
  have in_X12 : ∀ w ∈ wsX120, w ∈ wp_X12_clear := wi_X12_clear_X12
  have k_0 := hts (.fieldLink RX12 227 "SteadyMachineModel" "inputs" "I") (by decide +kernel)
  have hl := lv_entry ([.ref (α.1 1)]) (n := 1) (Nat.le_of_ble_eq_true rfl)
  rw [lg_entry_eq]
  generalize (lg_sl ([.ref (α.1 1)]) ++ List.replicate (1 - (lg_sl ([.ref (α.1 1)])).length) Slot.unset).toArray = ls at hl ⊢
  have hl : lv_has ls 1 [(0, .ref (α.1 1))] := hl
  unfold mp_X12_clear at hF
  revert hP hS
  generalize hLo : ([] : List Loc) = locs
  suffices h9 : ∀ (H : Heap) (locs : List Loc), va_P D vwCl (sm_wM σ α) H → va_S A s.heap H locs → W p l e (headSpec wp_X12_clear { frames := 0, cells := 0, slots := 0, locals := 0 }).room s m ([.ref (α.1 1)] : List Value).toArray below meth c H locs 0 0 (MQ below (va_Qv K (sm_B sm_wM D α) A) ([.ref (α.1 1)] : List Value).toArray s 0 0 A) (F0 m 0 ls []) from fun hP hS => h9 s.heap locs hP hS
  intro H locs hP hS
  refine lv_aload_n hx hb dX12_clear_0 rfl (lv_at hl 0 rfl) ?_
  refine lv_iconst (v := 0) hx hb dX12_clear_1 (by decide) ?_
  refine va_put (D := D) (ci := 12) (v := .int 0) (ty := .int) (C := RX12) (T := TX12) (N := 42) hx hb hts in_X12 tyX12 tyX12_ok nmX12 hown hK hP (hD.to (sm_wM_m _ _)) hS 1 (sm_gX12 σ α) rfl 29 (by decide) k_0 (fun _ h9 => h9) rfl (by decide +kernel) rfl rfl (Nat.le_of_ble_eq_true rfl) dX12_clear_2 (fun H locs hP _ hS => ?_)
  rw [sm_iM19] at hP
  obtain ⟨σ1, eσ1⟩ : ∃ x : sm_S, x = sm_i σ 19 0 := ⟨_, rfl⟩
  replace hF := hF σ1 eσ1
  rw [← eσ1] at hP
  exact W.vret hx hb hr (fun t ht hW => ⟨⟨σ1, rfl, hF, (by unfold sm_B; rw [ht]; exact hP)⟩, hS.F ht⟩) hS.2.2 dX12_clear_5
theorem dX12_enter_0 : decode cX12_enter 0 = .ok (.aload_n 0, 1) := by decide +kernel
theorem dX12_enter_1 : decode cX12_enter 1 = .ok (.getfield 205, 3) := by decide +kernel
theorem dX12_enter_4 : decode cX12_enter 4 = .ok (.aload_n 0, 1) := by decide +kernel
theorem dX12_enter_5 : decode cX12_enter 5 = .ok (.getfield 256, 3) := by decide +kernel
theorem dX12_enter_8 : decode cX12_enter 8 = .ok (.iload_n 1, 1) := by decide +kernel
theorem dX12_enter_9 : decode cX12_enter 9 = .ok (.iastore, 1) := by decide +kernel
theorem dX12_enter_10 : decode cX12_enter 10 = .ok (.aload_n 0, 1) := by decide +kernel
theorem dX12_enter_11 : decode cX12_enter 11 = .ok (.getfield 208, 3) := by decide +kernel
theorem dX12_enter_14 : decode cX12_enter 14 = .ok (.aload_n 0, 1) := by decide +kernel
theorem dX12_enter_15 : decode cX12_enter 15 = .ok (.getfield 256, 3) := by decide +kernel
theorem dX12_enter_18 : decode cX12_enter 18 = .ok (.iconst 0, 1) := by decide +kernel
theorem dX12_enter_19 : decode cX12_enter 19 = .ok (.iastore, 1) := by decide +kernel
theorem dX12_enter_20 : decode cX12_enter 20 = .ok (.aload_n 0, 1) := by decide +kernel
theorem dX12_enter_21 : decode cX12_enter 21 = .ok (.getfield 211, 3) := by decide +kernel
theorem dX12_enter_24 : decode cX12_enter 24 = .ok (.aload_n 0, 1) := by decide +kernel
theorem dX12_enter_25 : decode cX12_enter 25 = .ok (.getfield 256, 3) := by decide +kernel
theorem dX12_enter_28 : decode cX12_enter 28 = .ok (.iconst 0, 1) := by decide +kernel
theorem dX12_enter_29 : decode cX12_enter 29 = .ok (.iastore, 1) := by decide +kernel
theorem dX12_enter_30 : decode cX12_enter 30 = .ok (.iconst 0, 1) := by decide +kernel
theorem dX12_enter_31 : decode cX12_enter 31 = .ok (.istore_n 2, 1) := by decide +kernel
theorem dX12_enter_32 : decode cX12_enter 32 = .ok (.iload_n 2, 1) := by decide +kernel
theorem dX12_enter_33 : decode cX12_enter 33 = .ok (.bipush 12, 2) := by decide +kernel
theorem dX12_enter_35 : decode cX12_enter 35 = .ok (.if_icmp .ge 39, 3) := by decide +kernel
theorem dX12_enter_38 : decode cX12_enter 38 = .ok (.aload_n 0, 1) := by decide +kernel
theorem dX12_enter_39 : decode cX12_enter 39 = .ok (.getfield 215, 3) := by decide +kernel
theorem dX12_enter_42 : decode cX12_enter 42 = .ok (.bipush 12, 2) := by decide +kernel
theorem dX12_enter_44 : decode cX12_enter 44 = .ok (.aload_n 0, 1) := by decide +kernel
theorem dX12_enter_45 : decode cX12_enter 45 = .ok (.getfield 256, 3) := by decide +kernel
theorem dX12_enter_48 : decode cX12_enter 48 = .ok (.imul, 1) := by decide +kernel
theorem dX12_enter_49 : decode cX12_enter 49 = .ok (.iload_n 2, 1) := by decide +kernel
theorem dX12_enter_50 : decode cX12_enter 50 = .ok (.iadd, 1) := by decide +kernel
theorem dX12_enter_51 : decode cX12_enter 51 = .ok (.iconst 0, 1) := by decide +kernel
theorem dX12_enter_52 : decode cX12_enter 52 = .ok (.iastore, 1) := by decide +kernel
theorem dX12_enter_53 : decode cX12_enter 53 = .ok (.aload_n 0, 1) := by decide +kernel
theorem dX12_enter_54 : decode cX12_enter 54 = .ok (.getfield 218, 3) := by decide +kernel
theorem dX12_enter_57 : decode cX12_enter 57 = .ok (.bipush 12, 2) := by decide +kernel
theorem dX12_enter_59 : decode cX12_enter 59 = .ok (.aload_n 0, 1) := by decide +kernel
theorem dX12_enter_60 : decode cX12_enter 60 = .ok (.getfield 256, 3) := by decide +kernel
theorem dX12_enter_63 : decode cX12_enter 63 = .ok (.imul, 1) := by decide +kernel
theorem dX12_enter_64 : decode cX12_enter 64 = .ok (.iload_n 2, 1) := by decide +kernel
theorem dX12_enter_65 : decode cX12_enter 65 = .ok (.iadd, 1) := by decide +kernel
theorem dX12_enter_66 : decode cX12_enter 66 = .ok (.iconst 0, 1) := by decide +kernel
theorem dX12_enter_67 : decode cX12_enter 67 = .ok (.bastore, 1) := by decide +kernel
theorem dX12_enter_68 : decode cX12_enter 68 = .ok (.iinc 2 1, 3) := by decide +kernel
theorem dX12_enter_71 : decode cX12_enter 71 = .ok (.goto (-39), 3) := by decide +kernel
theorem dX12_enter_74 : decode cX12_enter 74 = .ok (.aload_n 0, 1) := by decide +kernel
theorem dX12_enter_75 : decode cX12_enter 75 = .ok (.dup, 1) := by decide +kernel
theorem dX12_enter_76 : decode cX12_enter 76 = .ok (.getfield 256, 3) := by decide +kernel
theorem dX12_enter_79 : decode cX12_enter 79 = .ok (.iconst 1, 1) := by decide +kernel
theorem dX12_enter_80 : decode cX12_enter 80 = .ok (.iadd, 1) := by decide +kernel
theorem dX12_enter_81 : decode cX12_enter 81 = .ok (.putfield 256, 3) := by decide +kernel
theorem dX12_enter_84 : decode cX12_enter 84 = .ok (.return_, 1) := by decide +kernel
def wp_X12_enter : List Cond := .code yX12_enter cX12_enter 3 none :: ([.fieldLink RX12 256 "SteadyMachineModel" "frames" "I", .fieldLink RX12 215 "SteadyMachineModel" "valueAt" "[I", .fieldLink RX12 218 "SteadyMachineModel" "isThing" "[Z", .fieldLink RX12 205 "SteadyMachineModel" "methodOf" "[I", .fieldLink RX12 208 "SteadyMachineModel" "placeOf" "[I", .fieldLink RX12 211 "SteadyMachineModel" "highOf" "[I"] ++ wsX120)
theorem wq_X12_enter : wp_X12_enter.all goodWord = true := wa_c rfl (wa_a (by decide +kernel) uq_X12)
theorem wt_X12_enter : GoodIn lw_tbl wp_X12_enter := wm_c (List.mem_of_getElem? (i := 1657) (by decide +kernel)) rfl (wm_a (goodIn_r _ [1508, 1512, 1513, 1509, 1510, 1511] (by decide +kernel) (by decide +kernel)) ut_X12)
theorem wi_X12_enter_X12 : ∀ w ∈ wsX120, w ∈ wp_X12_enter := fun w h => List.mem_cons_of_mem _ (List.mem_append_right _ h)
set_option maxHeartbeats 4000000 in
set_option maxRecDepth 100000 in
theorem c_X12_enter (l : Launch) (D : va_G) (sz t0 : Nat) (σ : sm_S) (α : sm_A) (p1 : Int32) (K : sm_S → Prop) (hF : mp_X12_enter σ p1 K) : Met l yX12_enter wp_X12_enter { frames := 0, cells := 0, slots := 0, locals := 0 } (sm_P sm_wM sm_tM 40 D sz t0 σ α [.ref (α.1 1), .int p1]) (va_Qv K (sm_B sm_wM D α) (sm_a α 40 sz)) 0 0 (sm_a α 40 sz) := by
  refine Met.ofW (cc := cX12_enter) (maxL := 3) (ret := none) (by decide) rfl ?_
  intro p e s m args below meth c s₁ B hml hv
  obtain ⟨rfl, hsz, hP, hK, hD0, hE⟩ := hv
  have hx := B.exec
  have hb := B.bytes
  have hr := B.returns
  have hts := atoms_spec (ws := wp_X12_enter) B.pre
  have hown : s.vm.findClass RX12 = some m.cls := findClass_of_methodNamed B.named
  have hlocks := B.notSynchronized
  subst hsz
  have hD : sm_D (sm_a α 40 s.heap.size) α 40 := hD0.own
  have hA : ∀ q : Nat, s.heap.size ≤ q → sm_a α 40 s.heap.size q := fun q h => Or.inr h
  generalize hAe : sm_a α 40 s.heap.size = A at hD hA hE ⊢
  have hS : va_S A s.heap s.heap [] := va_S.rf
  have in_X12 : ∀ w ∈ wsX120, w ∈ wp_X12_enter := wi_X12_enter_X12
  have k_0 := hts (.fieldLink RX12 256 "SteadyMachineModel" "frames" "I") (by decide +kernel)
  have k_1 := hts (.fieldLink RX12 215 "SteadyMachineModel" "valueAt" "[I") (by decide +kernel)
  have k_2 := hts (.fieldLink RX12 218 "SteadyMachineModel" "isThing" "[Z") (by decide +kernel)
  have k_3 := hts (.fieldLink RX12 205 "SteadyMachineModel" "methodOf" "[I") (by decide +kernel)
  have k_4 := hts (.fieldLink RX12 208 "SteadyMachineModel" "placeOf" "[I") (by decide +kernel)
  have k_5 := hts (.fieldLink RX12 211 "SteadyMachineModel" "highOf" "[I") (by decide +kernel)
  have hl := lv_entry ([.ref (α.1 1), .int p1]) (n := 3) (Nat.le_of_ble_eq_true rfl)
  rw [lg_entry_eq]
  generalize (lg_sl ([.ref (α.1 1), .int p1]) ++ List.replicate (3 - (lg_sl ([.ref (α.1 1), .int p1])).length) Slot.unset).toArray = ls at hl ⊢
  have hl : lv_has ls 3 [(0, .ref (α.1 1)), (1, .int p1)] := hl
  have B32 : ∀ (n : Nat) (σ : sm_S) (x2 : Int32), mp_X12_enter_32 K n σ x2 → sm_J p l e (headSpec wp_X12_enter { frames := 0, cells := 0, slots := 0, locals := 0 }).room s m ([.ref (α.1 1), .int p1] : List Value).toArray below meth c (MQ below (va_Qv K (sm_B sm_wM D α) A) ([.ref (α.1 1), .int p1] : List Value).toArray s 0 0 A) D A 3 (sm_wM σ α) 32 [(0, .ref (α.1 1)), (2, .int x2)] [] := by
    intro n32
    induction n32 with
    | zero =>
      intro σ x2 hF
      exact hF.elim
    | succ n32 ih32 =>
      intro σ x2 hF H locs ls hP hS hl
      unfold mp_X12_enter_32 at hF
      refine lv_iload_n hx hb dX12_enter_32 rfl (lv_at hl 1 rfl) ?_
      refine lv_bipush (v := 12) hx hb dX12_enter_33 (by decide) ?_
      refine lv_icmp_ge (tgt := 74) hx hb dX12_enter_35 (by decide) (fun h1 => ?_) (fun h1 => ?_)
      · replace hF := hF.1 h1
        refine lv_aload_n hx hb dX12_enter_74 rfl (lv_at hl 0 rfl) ?_
        refine lv_dup hx hb dX12_enter_75 rfl ?_
        refine va_get (D := D) (ci := 12) (v := .int (σ.1 14)) (C := RX12) (T := TX12) (N := 42) hx hb hts in_X12 hown hK hP 1 (sm_gX12 σ α) rfl 18 (by decide) k_0 (fun _ h9 => h9) rfl dX12_enter_76 ?_
        refine lv_iconst (v := 1) hx hb dX12_enter_79 (by decide) ?_
        refine lv_iadd hx hb dX12_enter_80 ?_
        refine va_put (D := D) (ci := 12) (v := .int ((σ.1 14) + 1)) (ty := .int) (C := RX12) (T := TX12) (N := 42) hx hb hts in_X12 tyX12 tyX12_ok nmX12 hown hK hP (hD.to (sm_wM_m _ _)) hS 1 (sm_gX12 σ α) rfl 18 (by decide) k_0 (fun _ h9 => h9) rfl (by decide +kernel) rfl rfl (Nat.le_of_ble_eq_true rfl) dX12_enter_81 (fun H locs hP _ hS => ?_)
        rw [sm_iM14] at hP
        obtain ⟨σ2, eσ2⟩ : ∃ x : sm_S, x = sm_i σ 14 ((σ.1 14) + 1) := ⟨_, rfl⟩
        replace hF := hF σ2 eσ2
        rw [← eσ2] at hP
        exact W.vret hx hb hr (fun t ht hW => ⟨⟨σ2, rfl, hF, (by unfold sm_B; rw [ht]; exact hP)⟩, hS.F ht⟩) hS.2.2 dX12_enter_84
      · replace hF := hF.2 h1
        refine lv_aload_n hx hb dX12_enter_38 rfl (lv_at hl 0 rfl) ?_
        refine va_get (D := D) (ci := 12) (v := .ref (α.1 36)) (C := RX12) (T := TX12) (N := 42) hx hb hts in_X12 hown hK hP 1 (sm_gX12 σ α) rfl 22 (by decide) k_1 (fun _ h9 => h9) rfl dX12_enter_39 ?_
        refine lv_bipush (v := 12) hx hb dX12_enter_42 (by decide) ?_
        refine lv_aload_n hx hb dX12_enter_44 rfl (lv_at hl 0 rfl) ?_
        refine va_get (D := D) (ci := 12) (v := .int (σ.1 14)) (C := RX12) (T := TX12) (N := 42) hx hb hts in_X12 hown hK hP 1 (sm_gX12 σ α) rfl 18 (by decide) k_0 (fun _ h9 => h9) rfl dX12_enter_45 ?_
        refine lv_imul hx hb dX12_enter_48 ?_
        refine lv_iload_n hx hb dX12_enter_49 rfl (lv_at hl 1 rfl) ?_
        refine lv_iadd hx hb dX12_enter_50 ?_
        refine lv_iconst (v := 0) hx hb dX12_enter_51 (by decide) ?_
        obtain ⟨h3, hF⟩ := hF
        refine va_iast (n := (σ.2.2.1 36)) (f := (σ.2.2.2.1 36)) (x := 0) hx hb hK hP (hD.to (sm_wM_m _ _)) hS 36 34 (sm_aM36 σ α) (sm_yM36 α) h3 dX12_enter_52 (fun H locs hP _ hS => ?_)
        rw [sm_rM36] at hP
        obtain ⟨σ4, eσ4⟩ : ∃ x : sm_S, x = sm_r σ 36 (upd (σ.2.2.2.1 36) ((12 * (σ.1 14)) + x2).toNatClampNeg 0) := ⟨_, rfl⟩
        replace hF := hF σ4 eσ4
        rw [← eσ4] at hP
        refine lv_aload_n hx hb dX12_enter_53 rfl (lv_at hl 0 rfl) ?_
        refine va_get (D := D) (ci := 12) (v := .ref (α.1 37)) (C := RX12) (T := TX12) (N := 42) hx hb hts in_X12 hown hK hP 1 (sm_gX12 σ4 α) rfl 23 (by decide) k_2 (fun _ h9 => h9) rfl dX12_enter_54 ?_
        refine lv_bipush (v := 12) hx hb dX12_enter_57 (by decide) ?_
        refine lv_aload_n hx hb dX12_enter_59 rfl (lv_at hl 0 rfl) ?_
        refine va_get (D := D) (ci := 12) (v := .int (σ4.1 14)) (C := RX12) (T := TX12) (N := 42) hx hb hts in_X12 hown hK hP 1 (sm_gX12 σ4 α) rfl 18 (by decide) k_0 (fun _ h9 => h9) rfl dX12_enter_60 ?_
        refine lv_imul hx hb dX12_enter_63 ?_
        refine lv_iload_n hx hb dX12_enter_64 rfl (lv_at hl 1 rfl) ?_
        refine lv_iadd hx hb dX12_enter_65 ?_
        refine lv_iconst (v := 0) hx hb dX12_enter_66 (by decide) ?_
        obtain ⟨h5, hF⟩ := hF
        refine va_zast (n := (σ4.2.2.1 37)) (f := (σ4.2.2.2.1 37)) (x := 0) hx hb hK hP (hD.to (sm_wM_m _ _)) hS 37 35 (sm_aM37 σ4 α) (sm_yM37 α) h5 dX12_enter_67 (fun H locs hP _ hS => ?_)
        rw [sm_rM37] at hP
        obtain ⟨σ6, eσ6⟩ : ∃ x : sm_S, x = sm_r σ4 37 (upd (σ4.2.2.2.1 37) ((12 * (σ4.1 14)) + x2).toNatClampNeg (vp_nar .boolean 0)) := ⟨_, rfl⟩
        replace hF := hF σ6 eσ6
        rw [← eσ6] at hP
        obtain ⟨v7, ev7⟩ : ∃ y : Int32, y = x2 + 1 := ⟨_, rfl⟩
        replace hF := hF v7 ev7
        refine lv_iinc (v := v7) (lv' := [(2, .int v7), (0, .ref (α.1 1))]) hx hb dX12_enter_68 hl (k := 1) rfl (by rw [ev7]; rfl) (by decide) rfl (fun ls hl => ?_)
        refine lv_goto (tgt := 32) hx hb dX12_enter_71 (by decide) ?_
        exact ih32 σ6 v7 hF H locs ls hP hS (lv_sub hl [1, 0] rfl)
  unfold mp_X12_enter at hF
  revert hP hS
  generalize hLo : ([] : List Loc) = locs
  suffices h9 : ∀ (H : Heap) (locs : List Loc), va_P D vwCl (sm_wM σ α) H → va_S A s.heap H locs → W p l e (headSpec wp_X12_enter { frames := 0, cells := 0, slots := 0, locals := 0 }).room s m ([.ref (α.1 1), .int p1] : List Value).toArray below meth c H locs 0 0 (MQ below (va_Qv K (sm_B sm_wM D α) A) ([.ref (α.1 1), .int p1] : List Value).toArray s 0 0 A) (F0 m 0 ls []) from fun hP hS => h9 s.heap locs hP hS
  intro H locs hP hS
  refine lv_aload_n hx hb dX12_enter_0 rfl (lv_at hl 0 rfl) ?_
  refine va_get (D := D) (ci := 12) (v := .ref (α.1 33)) (C := RX12) (T := TX12) (N := 42) hx hb hts in_X12 hown hK hP 1 (sm_gX12 σ α) rfl 19 (by decide) k_3 (fun _ h9 => h9) rfl dX12_enter_1 ?_
  refine lv_aload_n hx hb dX12_enter_4 rfl (lv_at hl 0 rfl) ?_
  refine va_get (D := D) (ci := 12) (v := .int (σ.1 14)) (C := RX12) (T := TX12) (N := 42) hx hb hts in_X12 hown hK hP 1 (sm_gX12 σ α) rfl 18 (by decide) k_0 (fun _ h9 => h9) rfl dX12_enter_5 ?_
  refine lv_iload_n hx hb dX12_enter_8 rfl (lv_at hl 1 rfl) ?_
  obtain ⟨h8, hF⟩ := hF
  refine va_iast (n := (σ.2.2.1 33)) (f := (σ.2.2.2.1 33)) (x := p1) hx hb hK hP (hD.to (sm_wM_m _ _)) hS 33 31 (sm_aM33 σ α) (sm_yM33 α) h8 dX12_enter_9 (fun H locs hP _ hS => ?_)
  rw [sm_rM33] at hP
  obtain ⟨σ9, eσ9⟩ : ∃ x : sm_S, x = sm_r σ 33 (upd (σ.2.2.2.1 33) (σ.1 14).toNatClampNeg p1) := ⟨_, rfl⟩
  replace hF := hF σ9 eσ9
  rw [← eσ9] at hP
  refine lv_aload_n hx hb dX12_enter_10 rfl (lv_at hl 0 rfl) ?_
  refine va_get (D := D) (ci := 12) (v := .ref (α.1 34)) (C := RX12) (T := TX12) (N := 42) hx hb hts in_X12 hown hK hP 1 (sm_gX12 σ9 α) rfl 20 (by decide) k_4 (fun _ h9 => h9) rfl dX12_enter_11 ?_
  refine lv_aload_n hx hb dX12_enter_14 rfl (lv_at hl 0 rfl) ?_
  refine va_get (D := D) (ci := 12) (v := .int (σ9.1 14)) (C := RX12) (T := TX12) (N := 42) hx hb hts in_X12 hown hK hP 1 (sm_gX12 σ9 α) rfl 18 (by decide) k_0 (fun _ h9 => h9) rfl dX12_enter_15 ?_
  refine lv_iconst (v := 0) hx hb dX12_enter_18 (by decide) ?_
  obtain ⟨h10, hF⟩ := hF
  refine va_iast (n := (σ9.2.2.1 34)) (f := (σ9.2.2.2.1 34)) (x := 0) hx hb hK hP (hD.to (sm_wM_m _ _)) hS 34 32 (sm_aM34 σ9 α) (sm_yM34 α) h10 dX12_enter_19 (fun H locs hP _ hS => ?_)
  rw [sm_rM34] at hP
  obtain ⟨σ11, eσ11⟩ : ∃ x : sm_S, x = sm_r σ9 34 (upd (σ9.2.2.2.1 34) (σ9.1 14).toNatClampNeg 0) := ⟨_, rfl⟩
  replace hF := hF σ11 eσ11
  rw [← eσ11] at hP
  refine lv_aload_n hx hb dX12_enter_20 rfl (lv_at hl 0 rfl) ?_
  refine va_get (D := D) (ci := 12) (v := .ref (α.1 35)) (C := RX12) (T := TX12) (N := 42) hx hb hts in_X12 hown hK hP 1 (sm_gX12 σ11 α) rfl 21 (by decide) k_5 (fun _ h9 => h9) rfl dX12_enter_21 ?_
  refine lv_aload_n hx hb dX12_enter_24 rfl (lv_at hl 0 rfl) ?_
  refine va_get (D := D) (ci := 12) (v := .int (σ11.1 14)) (C := RX12) (T := TX12) (N := 42) hx hb hts in_X12 hown hK hP 1 (sm_gX12 σ11 α) rfl 18 (by decide) k_0 (fun _ h9 => h9) rfl dX12_enter_25 ?_
  refine lv_iconst (v := 0) hx hb dX12_enter_28 (by decide) ?_
  obtain ⟨h12, hF⟩ := hF
  refine va_iast (n := (σ11.2.2.1 35)) (f := (σ11.2.2.2.1 35)) (x := 0) hx hb hK hP (hD.to (sm_wM_m _ _)) hS 35 33 (sm_aM35 σ11 α) (sm_yM35 α) h12 dX12_enter_29 (fun H locs hP _ hS => ?_)
  rw [sm_rM35] at hP
  obtain ⟨σ13, eσ13⟩ : ∃ x : sm_S, x = sm_r σ11 35 (upd (σ11.2.2.2.1 35) (σ11.1 14).toNatClampNeg 0) := ⟨_, rfl⟩
  replace hF := hF σ13 eσ13
  rw [← eσ13] at hP
  refine lv_iconst (v := 0) hx hb dX12_enter_30 (by decide) ?_
  refine lv_istore_n (lv' := [(2, .int 0), (0, .ref (α.1 1)), (1, .int p1)]) hx hb dX12_enter_31 rfl hl (by decide) rfl (fun ls hl => ?_)
  obtain ⟨n32, hF⟩ := hF
  exact B32 n32 σ13 0 hF H locs ls hP hS (lv_sub hl [1, 0] rfl)
theorem dX12_isDone_0 : decode cX12_isDone 0 = .ok (.aload_n 0, 1) := by decide +kernel
theorem dX12_isDone_1 : decode cX12_isDone 1 = .ok (.getfield 231, 3) := by decide +kernel
theorem dX12_isDone_4 : decode cX12_isDone 4 = .ok (.i2l, 1) := by decide +kernel
theorem dX12_isDone_5 : decode cX12_isDone 5 = .ok (.aload_n 0, 1) := by decide +kernel
theorem dX12_isDone_6 : decode cX12_isDone 6 = .ok (.getfield 240, 3) := by decide +kernel
theorem dX12_isDone_9 : decode cX12_isDone 9 = .ok (.lmul, 1) := by decide +kernel
theorem dX12_isDone_10 : decode cX12_isDone 10 = .ok (.aload_n 0, 1) := by decide +kernel
theorem dX12_isDone_11 : decode cX12_isDone 11 = .ok (.getfield 237, 3) := by decide +kernel
theorem dX12_isDone_14 : decode cX12_isDone 14 = .ok (.i2l, 1) := by decide +kernel
theorem dX12_isDone_15 : decode cX12_isDone 15 = .ok (.lcmp, 1) := by decide +kernel
theorem dX12_isDone_16 : decode cX12_isDone 16 = .ok (.ifCond .lt 7, 3) := by decide +kernel
theorem dX12_isDone_19 : decode cX12_isDone 19 = .ok (.iconst 1, 1) := by decide +kernel
theorem dX12_isDone_20 : decode cX12_isDone 20 = .ok (.goto 4, 3) := by decide +kernel
theorem dX12_isDone_23 : decode cX12_isDone 23 = .ok (.iconst 0, 1) := by decide +kernel
theorem dX12_isDone_24 : decode cX12_isDone 24 = .ok (.ireturn, 1) := by decide +kernel
def wp_X12_isDone : List Cond := .code yX12_isDone cX12_isDone 1 (some .boolean) :: ([.fieldLink RX12 231 "SteadyMachineModel" "k" "I", .fieldLink RX12 240 "SteadyMachineModel" "made" "J", .fieldLink RX12 237 "SteadyMachineModel" "reached" "I"] ++ wsX120)
theorem wq_X12_isDone : wp_X12_isDone.all goodWord = true := wa_c rfl (wa_a (by decide +kernel) uq_X12)
theorem wt_X12_isDone : GoodIn lw_tbl wp_X12_isDone := wm_c (List.mem_of_getElem? (i := 1637) (by decide +kernel)) rfl (wm_a (goodIn_r _ [1524, 1527, 1526] (by decide +kernel) (by decide +kernel)) ut_X12)
theorem wi_X12_isDone_X12 : ∀ w ∈ wsX120, w ∈ wp_X12_isDone := fun w h => List.mem_cons_of_mem _ (List.mem_append_right _ h)
set_option maxHeartbeats 4000000 in
set_option maxRecDepth 100000 in
theorem c_X12_isDone (l : Launch) (D : va_G) (sz t0 : Nat) (σ : sm_S) (α : sm_A) (K : Int32 → sm_S → Prop) (hF : mp_X12_isDone σ K) : Met l yX12_isDone wp_X12_isDone { frames := 0, cells := 0, slots := 0, locals := 0 } (sm_P sm_wM sm_tM 40 D sz t0 σ α [.ref (α.1 1)]) (va_Qi K (sm_B sm_wM D α) (sm_a α 40 sz)) 0 0 (sm_a α 40 sz) := by
  refine Met.ofW (cc := cX12_isDone) (maxL := 1) (ret := (some .boolean)) (by decide) rfl ?_
  intro p e s m args below meth c s₁ B hml hv
  obtain ⟨rfl, hsz, hP, hK, hD0, hE⟩ := hv
  have hx := B.exec
  have hb := B.bytes
  have hr := B.returns
  have hts := atoms_spec (ws := wp_X12_isDone) B.pre
  have hown : s.vm.findClass RX12 = some m.cls := findClass_of_methodNamed B.named
  have hlocks := B.notSynchronized
  subst hsz
  have hD : sm_D (sm_a α 40 s.heap.size) α 40 := hD0.own
  have hA : ∀ q : Nat, s.heap.size ≤ q → sm_a α 40 s.heap.size q := fun q h => Or.inr h
  generalize hAe : sm_a α 40 s.heap.size = A at hD hA hE ⊢
  have hS : va_S A s.heap s.heap [] := va_S.rf
  have in_X12 : ∀ w ∈ wsX120, w ∈ wp_X12_isDone := wi_X12_isDone_X12
  have k_0 := hts (.fieldLink RX12 231 "SteadyMachineModel" "k" "I") (by decide +kernel)
  have k_1 := hts (.fieldLink RX12 240 "SteadyMachineModel" "made" "J") (by decide +kernel)
  have k_2 := hts (.fieldLink RX12 237 "SteadyMachineModel" "reached" "I") (by decide +kernel)
  have hl := lv_entry ([.ref (α.1 1)]) (n := 1) (Nat.le_of_ble_eq_true rfl)
  rw [lg_entry_eq]
  generalize (lg_sl ([.ref (α.1 1)]) ++ List.replicate (1 - (lg_sl ([.ref (α.1 1)])).length) Slot.unset).toArray = ls at hl ⊢
  have hl : lv_has ls 1 [(0, .ref (α.1 1))] := hl
  have B24 : ∀ (σ : sm_S) (y0 : Int32), mp_X12_isDone_24 K σ y0 → sm_J p l e (headSpec wp_X12_isDone { frames := 0, cells := 0, slots := 0, locals := 0 }).room s m ([.ref (α.1 1)] : List Value).toArray below meth c (MQ below (va_Qi K (sm_B sm_wM D α) A) ([.ref (α.1 1)] : List Value).toArray s 0 0 A) D A 1 (sm_wM σ α) 24 [] [.int y0] := by
    intro σ y0 hF H locs ls hP hS hl
    unfold mp_X12_isDone_24 at hF
    obtain ⟨h1, hF⟩ := hF
    exact W.zret (v := y0) hx hb hr h1.1 (fun t ht hW => ⟨⟨y0, σ, rfl, hF, (by unfold sm_B; rw [ht]; exact hP)⟩, hS.F ht⟩) hS.2.2 dX12_isDone_24
  unfold mp_X12_isDone at hF
  revert hP hS
  generalize hLo : ([] : List Loc) = locs
  suffices h9 : ∀ (H : Heap) (locs : List Loc), va_P D vwCl (sm_wM σ α) H → va_S A s.heap H locs → W p l e (headSpec wp_X12_isDone { frames := 0, cells := 0, slots := 0, locals := 0 }).room s m ([.ref (α.1 1)] : List Value).toArray below meth c H locs 0 0 (MQ below (va_Qi K (sm_B sm_wM D α) A) ([.ref (α.1 1)] : List Value).toArray s 0 0 A) (F0 m 0 ls []) from fun hP hS => h9 s.heap locs hP hS
  intro H locs hP hS
  refine lv_aload_n hx hb dX12_isDone_0 rfl (lv_at hl 0 rfl) ?_
  refine va_get (D := D) (ci := 12) (v := .int (σ.1 21)) (C := RX12) (T := TX12) (N := 42) hx hb hts in_X12 hown hK hP 1 (sm_gX12 σ α) rfl 34 (by decide) k_0 (fun _ h9 => h9) rfl dX12_isDone_1 ?_
  refine lv_i2l hx hb dX12_isDone_4 rfl ?_
  refine lv_aload_n hx hb dX12_isDone_5 rfl (lv_at hl 0 rfl) ?_
  refine va_get (D := D) (ci := 12) (v := .long (σ.2.1 2)) (C := RX12) (T := TX12) (N := 42) hx hb hts in_X12 hown hK hP 1 (sm_gX12 σ α) rfl 37 (by decide) k_1 (fun _ h9 => h9) rfl dX12_isDone_6 ?_
  refine lv_lmul hx hb dX12_isDone_9 ?_
  refine lv_aload_n hx hb dX12_isDone_10 rfl (lv_at hl 0 rfl) ?_
  refine va_get (D := D) (ci := 12) (v := .int (σ.1 23)) (C := RX12) (T := TX12) (N := 42) hx hb hts in_X12 hown hK hP 1 (sm_gX12 σ α) rfl 36 (by decide) k_2 (fun _ h9 => h9) rfl dX12_isDone_11 ?_
  refine lv_i2l hx hb dX12_isDone_14 rfl ?_
  refine W.lcmp hx hb dX12_isDone_15 ?_
  refine lv_if_lt (tgt := 23) hx hb dX12_isDone_16 (by decide) (fun h2 => ?_) (fun h2 => ?_)
  · replace hF := hF.1 h2
    refine lv_iconst (v := 0) hx hb dX12_isDone_23 (by decide) ?_
    exact B24 σ 0 hF H locs ls hP hS (lv_sub hl [] rfl)
  · replace hF := hF.2 h2
    refine lv_iconst (v := 1) hx hb dX12_isDone_19 (by decide) ?_
    refine lv_goto (tgt := 24) hx hb dX12_isDone_20 (by decide) ?_
    exact B24 σ 1 hF H locs ls hP hS (lv_sub hl [] rfl)
theorem dX12_cellsOf_0 : decode cX12_cellsOf 0 = .ok (.aload_n 0, 1) := by decide +kernel
theorem dX12_cellsOf_1 : decode cX12_cellsOf 1 = .ok (.getfield 180, 3) := by decide +kernel
theorem dX12_cellsOf_4 : decode cX12_cellsOf 4 = .ok (.iload_n 1, 1) := by decide +kernel
theorem dX12_cellsOf_5 : decode cX12_cellsOf 5 = .ok (.baload, 1) := by decide +kernel
theorem dX12_cellsOf_6 : decode cX12_cellsOf 6 = .ok (.ifCond .ne 22, 3) := by decide +kernel
theorem dX12_cellsOf_9 : decode cX12_cellsOf 9 = .ok (.iconst 1, 1) := by decide +kernel
theorem dX12_cellsOf_10 : decode cX12_cellsOf 10 = .ok (.aload_n 0, 1) := by decide +kernel
theorem dX12_cellsOf_11 : decode cX12_cellsOf 11 = .ok (.getfield 10, 3) := by decide +kernel
theorem dX12_cellsOf_14 : decode cX12_cellsOf 14 = .ok (.getfield 292, 3) := by decide +kernel
theorem dX12_cellsOf_17 : decode cX12_cellsOf 17 = .ok (.aload_n 0, 1) := by decide +kernel
theorem dX12_cellsOf_18 : decode cX12_cellsOf 18 = .ok (.getfield 183, 3) := by decide +kernel
theorem dX12_cellsOf_21 : decode cX12_cellsOf 21 = .ok (.iload_n 1, 1) := by decide +kernel
theorem dX12_cellsOf_22 : decode cX12_cellsOf 22 = .ok (.iaload, 1) := by decide +kernel
theorem dX12_cellsOf_23 : decode cX12_cellsOf 23 = .ok (.iaload, 1) := by decide +kernel
theorem dX12_cellsOf_24 : decode cX12_cellsOf 24 = .ok (.iadd, 1) := by decide +kernel
theorem dX12_cellsOf_25 : decode cX12_cellsOf 25 = .ok (.goto 5, 3) := by decide +kernel
theorem dX12_cellsOf_28 : decode cX12_cellsOf 28 = .ok (.bipush 16, 2) := by decide +kernel
theorem dX12_cellsOf_30 : decode cX12_cellsOf 30 = .ok (.ireturn, 1) := by decide +kernel
def wp_X12_cellsOf : List Cond := .code yX12_cellsOf cX12_cellsOf 2 (some .int) :: (([.fieldLink RX12 180 "SteadyMachineModel" "sorts" "[B", .fieldLink RX12 10 "SteadyMachineModel" "image" "LSteadyMachineModel$Image;", .fieldLink RX12 183 "SteadyMachineModel" "infos" "[I"] ++ wsX110) ++ wsX120)
theorem wq_X12_cellsOf : wp_X12_cellsOf.all goodWord = true := wa_c rfl (wa_a (wa_a (by decide +kernel) uq_X11) uq_X12)
theorem wt_X12_cellsOf : GoodIn lw_tbl wp_X12_cellsOf := wm_c (List.mem_of_getElem? (i := 1649) (by decide +kernel)) rfl (wm_a (wm_a (goodIn_r _ [1498, 1490, 1499] (by decide +kernel) (by decide +kernel)) ut_X11) ut_X12)
theorem wi_X12_cellsOf_X11 : ∀ w ∈ wsX110, w ∈ wp_X12_cellsOf := fun w h => List.mem_cons_of_mem _ (List.mem_append_left _ (List.mem_append_right _ h))
theorem wi_X12_cellsOf_X12 : ∀ w ∈ wsX120, w ∈ wp_X12_cellsOf := fun w h => List.mem_cons_of_mem _ (List.mem_append_right _ h)
set_option maxHeartbeats 4000000 in
set_option maxRecDepth 100000 in
theorem c_X12_cellsOf (l : Launch) (D : va_G) (sz t0 : Nat) (σ : sm_S) (α : sm_A) (p1 : Int32) (K : Int32 → sm_S → Prop) (hF : mp_X12_cellsOf σ p1 K) : Met l yX12_cellsOf wp_X12_cellsOf { frames := 0, cells := 0, slots := 0, locals := 0 } (sm_P sm_wM sm_tM 40 D sz t0 σ α [.ref (α.1 1), .int p1]) (va_Qi K (sm_B sm_wM D α) (sm_a α 40 sz)) 0 0 (sm_a α 40 sz) := by
  refine Met.ofW (cc := cX12_cellsOf) (maxL := 2) (ret := (some .int)) (by decide) rfl ?_
  intro p e s m args below meth c s₁ B hml hv
  obtain ⟨rfl, hsz, hP, hK, hD0, hE⟩ := hv
  have hx := B.exec
  have hb := B.bytes
  have hr := B.returns
  have hts := atoms_spec (ws := wp_X12_cellsOf) B.pre
  have hown : s.vm.findClass RX12 = some m.cls := findClass_of_methodNamed B.named
  have hlocks := B.notSynchronized
  subst hsz
  have hD : sm_D (sm_a α 40 s.heap.size) α 40 := hD0.own
  have hA : ∀ q : Nat, s.heap.size ≤ q → sm_a α 40 s.heap.size q := fun q h => Or.inr h
  generalize hAe : sm_a α 40 s.heap.size = A at hD hA hE ⊢
  have hS : va_S A s.heap s.heap [] := va_S.rf
  have in_X11 : ∀ w ∈ wsX110, w ∈ wp_X12_cellsOf := wi_X12_cellsOf_X11
  have in_X12 : ∀ w ∈ wsX120, w ∈ wp_X12_cellsOf := wi_X12_cellsOf_X12
  have k_0 := hts (.fieldLink RX12 180 "SteadyMachineModel" "sorts" "[B") (by decide +kernel)
  have k_1 := hts (.fieldLink RX12 10 "SteadyMachineModel" "image" "LSteadyMachineModel$Image;") (by decide +kernel)
  have k_2 := hts (.fieldLink RX12 183 "SteadyMachineModel" "infos" "[I") (by decide +kernel)
  have hl := lv_entry ([.ref (α.1 1), .int p1]) (n := 2) (Nat.le_of_ble_eq_true rfl)
  rw [lg_entry_eq]
  generalize (lg_sl ([.ref (α.1 1), .int p1]) ++ List.replicate (2 - (lg_sl ([.ref (α.1 1), .int p1])).length) Slot.unset).toArray = ls at hl ⊢
  have hl : lv_has ls 2 [(0, .ref (α.1 1)), (1, .int p1)] := hl
  have B30 : ∀ (σ : sm_S) (y0 : Int32), mp_X12_cellsOf_30 K σ y0 → sm_J p l e (headSpec wp_X12_cellsOf { frames := 0, cells := 0, slots := 0, locals := 0 }).room s m ([.ref (α.1 1), .int p1] : List Value).toArray below meth c (MQ below (va_Qi K (sm_B sm_wM D α) A) ([.ref (α.1 1), .int p1] : List Value).toArray s 0 0 A) D A 2 (sm_wM σ α) 30 [] [.int y0] := by
    intro σ y0 hF H locs ls hP hS hl
    unfold mp_X12_cellsOf_30 at hF
    exact W.iret (v := y0) hx hb hr (fun t ht hW => ⟨⟨y0, σ, rfl, hF, (by unfold sm_B; rw [ht]; exact hP)⟩, hS.F ht⟩) hS.2.2 dX12_cellsOf_30
  unfold mp_X12_cellsOf at hF
  revert hP hS
  generalize hLo : ([] : List Loc) = locs
  suffices h9 : ∀ (H : Heap) (locs : List Loc), va_P D vwCl (sm_wM σ α) H → va_S A s.heap H locs → W p l e (headSpec wp_X12_cellsOf { frames := 0, cells := 0, slots := 0, locals := 0 }).room s m ([.ref (α.1 1), .int p1] : List Value).toArray below meth c H locs 0 0 (MQ below (va_Qi K (sm_B sm_wM D α) A) ([.ref (α.1 1), .int p1] : List Value).toArray s 0 0 A) (F0 m 0 ls []) from fun hP hS => h9 s.heap locs hP hS
  intro H locs hP hS
  refine lv_aload_n hx hb dX12_cellsOf_0 rfl (lv_at hl 0 rfl) ?_
  refine va_get (D := D) (ci := 12) (v := .ref (α.1 25)) (C := RX12) (T := TX12) (N := 42) hx hb hts in_X12 hown hK hP 1 (sm_gX12 σ α) rfl 8 (by decide) k_0 (fun _ h9 => h9) rfl dX12_cellsOf_1 ?_
  refine lv_iload_n hx hb dX12_cellsOf_4 rfl (lv_at hl 1 rfl) ?_
  obtain ⟨h1, hF⟩ := hF
  refine va_bald (n := (σ.2.2.1 25)) (f := (σ.2.2.2.1 25)) hx hb hK hP 25 23 (sm_aM25 σ α) (sm_yM25 α) h1 dX12_cellsOf_5 ?_
  refine lv_if_ne (tgt := 28) hx hb dX12_cellsOf_6 (by decide) (fun h2 => ?_) (fun h2 => ?_)
  · replace hF := hF.1 h2
    refine lv_bipush (v := 16) hx hb dX12_cellsOf_28 (by decide) ?_
    exact B30 σ 16 hF H locs ls hP hS (lv_sub hl [] rfl)
  · replace hF := hF.2 h2
    refine lv_iconst (v := 1) hx hb dX12_cellsOf_9 (by decide) ?_
    refine lv_aload_n hx hb dX12_cellsOf_10 rfl (lv_at hl 0 rfl) ?_
    refine va_get (D := D) (ci := 12) (v := .ref (α.1 0)) (C := RX12) (T := TX12) (N := 42) hx hb hts in_X12 hown hK hP 1 (sm_gX12 σ α) rfl 0 (by decide) k_1 (fun _ h9 => h9) rfl dX12_cellsOf_11 ?_
    refine va_getN (D := D) (ci := 11) (v := .ref (α.1 6)) (C := RX11) (T := TX11) (N := 28) hx hb hts in_X11 hown hK hP 0 (sm_gX11 σ α) rfl 10 (by decide) (va_Nw.use rfl (hE.1 (.fieldLinkNest "SteadyMachineModel" 292 "SteadyMachineModel$Image" "fieldCounts" "[I" "SteadyMachineModel") (by decide +kernel))) (fun _ h9 => h9) rfl dX12_cellsOf_14 ?_
    refine lv_aload_n hx hb dX12_cellsOf_17 rfl (lv_at hl 0 rfl) ?_
    refine va_get (D := D) (ci := 12) (v := .ref (α.1 26)) (C := RX12) (T := TX12) (N := 42) hx hb hts in_X12 hown hK hP 1 (sm_gX12 σ α) rfl 9 (by decide) k_2 (fun _ h9 => h9) rfl dX12_cellsOf_18 ?_
    refine lv_iload_n hx hb dX12_cellsOf_21 rfl (lv_at hl 1 rfl) ?_
    obtain ⟨h3, hF⟩ := hF
    refine va_iald (n := (σ.2.2.1 26)) (f := (σ.2.2.2.1 26)) hx hb hK hP 26 24 (sm_aM26 σ α) (sm_yM26 α) h3 dX12_cellsOf_22 ?_
    obtain ⟨h4, hF⟩ := hF
    refine va_iald (n := (σ.2.2.1 6)) (f := (σ.2.2.2.1 6)) hx hb hK hP 6 4 (sm_aM6 σ α) (sm_yM6 α) h4 dX12_cellsOf_23 ?_
    refine lv_iadd hx hb dX12_cellsOf_24 ?_
    refine lv_goto (tgt := 30) hx hb dX12_cellsOf_25 (by decide) ?_
    exact B30 σ (1 + ((σ.2.2.2.1 6) ((σ.2.2.2.1 26) p1.toNatClampNeg).toNatClampNeg)) hF H locs ls hP hS (lv_sub hl [] rfl)
theorem dX12_isPart_0 : decode cX12_isPart 0 = .ok (.aload_n 0, 1) := by decide +kernel
theorem dX12_isPart_1 : decode cX12_isPart 1 = .ok (.getfield 180, 3) := by decide +kernel
theorem dX12_isPart_4 : decode cX12_isPart 4 = .ok (.iload_n 1, 1) := by decide +kernel
theorem dX12_isPart_5 : decode cX12_isPart 5 = .ok (.baload, 1) := by decide +kernel
theorem dX12_isPart_6 : decode cX12_isPart 6 = .ok (.ifCond .ne 33, 3) := by decide +kernel
theorem dX12_isPart_9 : decode cX12_isPart 9 = .ok (.aload_n 0, 1) := by decide +kernel
theorem dX12_isPart_10 : decode cX12_isPart 10 = .ok (.getfield 10, 3) := by decide +kernel
theorem dX12_isPart_13 : decode cX12_isPart 13 = .ok (.getfield 99, 3) := by decide +kernel
theorem dX12_isPart_16 : decode cX12_isPart 16 = .ok (.bipush 15, 2) := by decide +kernel
theorem dX12_isPart_18 : decode cX12_isPart 18 = .ok (.aload_n 0, 1) := by decide +kernel
theorem dX12_isPart_19 : decode cX12_isPart 19 = .ok (.getfield 183, 3) := by decide +kernel
theorem dX12_isPart_22 : decode cX12_isPart 22 = .ok (.iload_n 1, 1) := by decide +kernel
theorem dX12_isPart_23 : decode cX12_isPart 23 = .ok (.iaload, 1) := by decide +kernel
theorem dX12_isPart_24 : decode cX12_isPart 24 = .ok (.imul, 1) := by decide +kernel
theorem dX12_isPart_25 : decode cX12_isPart 25 = .ok (.iload_n 2, 1) := by decide +kernel
theorem dX12_isPart_26 : decode cX12_isPart 26 = .ok (.iadd, 1) := by decide +kernel
theorem dX12_isPart_27 : decode cX12_isPart 27 = .ok (.iaload, 1) := by decide +kernel
theorem dX12_isPart_28 : decode cX12_isPart 28 = .ok (.ifCond .le 7, 3) := by decide +kernel
theorem dX12_isPart_31 : decode cX12_isPart 31 = .ok (.iconst 1, 1) := by decide +kernel
theorem dX12_isPart_32 : decode cX12_isPart 32 = .ok (.goto 13, 3) := by decide +kernel
theorem dX12_isPart_35 : decode cX12_isPart 35 = .ok (.iconst 0, 1) := by decide +kernel
theorem dX12_isPart_36 : decode cX12_isPart 36 = .ok (.goto 9, 3) := by decide +kernel
theorem dX12_isPart_39 : decode cX12_isPart 39 = .ok (.aload_n 0, 1) := by decide +kernel
theorem dX12_isPart_40 : decode cX12_isPart 40 = .ok (.getfield 186, 3) := by decide +kernel
theorem dX12_isPart_43 : decode cX12_isPart 43 = .ok (.iload_n 1, 1) := by decide +kernel
theorem dX12_isPart_44 : decode cX12_isPart 44 = .ok (.baload, 1) := by decide +kernel
theorem dX12_isPart_45 : decode cX12_isPart 45 = .ok (.ireturn, 1) := by decide +kernel
def wp_X12_isPart : List Cond := .code yX12_isPart cX12_isPart 3 (some .boolean) :: (([.fieldLink RX12 180 "SteadyMachineModel" "sorts" "[B", .fieldLink RX12 186 "SteadyMachineModel" "refs" "[Z", .fieldLink RX12 10 "SteadyMachineModel" "image" "LSteadyMachineModel$Image;", .fieldLink RX12 183 "SteadyMachineModel" "infos" "[I"] ++ wsX110) ++ wsX120)
theorem wq_X12_isPart : wp_X12_isPart.all goodWord = true := wa_c rfl (wa_a (wa_a (by decide +kernel) uq_X11) uq_X12)
theorem wt_X12_isPart : GoodIn lw_tbl wp_X12_isPart := wm_c (List.mem_of_getElem? (i := 1653) (by decide +kernel)) rfl (wm_a (wm_a (goodIn_r _ [1498, 1500, 1490, 1499] (by decide +kernel) (by decide +kernel)) ut_X11) ut_X12)
theorem wi_X12_isPart_X11 : ∀ w ∈ wsX110, w ∈ wp_X12_isPart := fun w h => List.mem_cons_of_mem _ (List.mem_append_left _ (List.mem_append_right _ h))
theorem wi_X12_isPart_X12 : ∀ w ∈ wsX120, w ∈ wp_X12_isPart := fun w h => List.mem_cons_of_mem _ (List.mem_append_right _ h)
set_option maxHeartbeats 4000000 in
set_option maxRecDepth 100000 in
theorem c_X12_isPart (l : Launch) (D : va_G) (sz t0 : Nat) (σ : sm_S) (α : sm_A) (p1 : Int32) (p2 : Int32) (K : Int32 → sm_S → Prop) (hF : mp_X12_isPart σ p1 p2 K) : Met l yX12_isPart wp_X12_isPart { frames := 0, cells := 0, slots := 0, locals := 0 } (sm_P sm_wM sm_tM 40 D sz t0 σ α [.ref (α.1 1), .int p1, .int p2]) (va_Qi K (sm_B sm_wM D α) (sm_a α 40 sz)) 0 0 (sm_a α 40 sz) := by
  refine Met.ofW (cc := cX12_isPart) (maxL := 3) (ret := (some .boolean)) (by decide) rfl ?_
  intro p e s m args below meth c s₁ B hml hv
  obtain ⟨rfl, hsz, hP, hK, hD0, hE⟩ := hv
  have hx := B.exec
  have hb := B.bytes
  have hr := B.returns
  have hts := atoms_spec (ws := wp_X12_isPart) B.pre
  have hown : s.vm.findClass RX12 = some m.cls := findClass_of_methodNamed B.named
  have hlocks := B.notSynchronized
  subst hsz
  have hD : sm_D (sm_a α 40 s.heap.size) α 40 := hD0.own
  have hA : ∀ q : Nat, s.heap.size ≤ q → sm_a α 40 s.heap.size q := fun q h => Or.inr h
  generalize hAe : sm_a α 40 s.heap.size = A at hD hA hE ⊢
  have hS : va_S A s.heap s.heap [] := va_S.rf
  have in_X11 : ∀ w ∈ wsX110, w ∈ wp_X12_isPart := wi_X12_isPart_X11
  have in_X12 : ∀ w ∈ wsX120, w ∈ wp_X12_isPart := wi_X12_isPart_X12
  have k_0 := hts (.fieldLink RX12 180 "SteadyMachineModel" "sorts" "[B") (by decide +kernel)
  have k_1 := hts (.fieldLink RX12 186 "SteadyMachineModel" "refs" "[Z") (by decide +kernel)
  have k_2 := hts (.fieldLink RX12 10 "SteadyMachineModel" "image" "LSteadyMachineModel$Image;") (by decide +kernel)
  have k_3 := hts (.fieldLink RX12 183 "SteadyMachineModel" "infos" "[I") (by decide +kernel)
  have hl := lv_entry ([.ref (α.1 1), .int p1, .int p2]) (n := 3) (Nat.le_of_ble_eq_true rfl)
  rw [lg_entry_eq]
  generalize (lg_sl ([.ref (α.1 1), .int p1, .int p2]) ++ List.replicate (3 - (lg_sl ([.ref (α.1 1), .int p1, .int p2])).length) Slot.unset).toArray = ls at hl ⊢
  have hl : lv_has ls 3 [(0, .ref (α.1 1)), (1, .int p1), (2, .int p2)] := hl
  have B45 : ∀ (σ : sm_S) (y0 : Int32), mp_X12_isPart_45 K σ y0 → sm_J p l e (headSpec wp_X12_isPart { frames := 0, cells := 0, slots := 0, locals := 0 }).room s m ([.ref (α.1 1), .int p1, .int p2] : List Value).toArray below meth c (MQ below (va_Qi K (sm_B sm_wM D α) A) ([.ref (α.1 1), .int p1, .int p2] : List Value).toArray s 0 0 A) D A 3 (sm_wM σ α) 45 [] [.int y0] := by
    intro σ y0 hF H locs ls hP hS hl
    unfold mp_X12_isPart_45 at hF
    obtain ⟨h1, hF⟩ := hF
    exact W.zret (v := y0) hx hb hr h1.1 (fun t ht hW => ⟨⟨y0, σ, rfl, hF, (by unfold sm_B; rw [ht]; exact hP)⟩, hS.F ht⟩) hS.2.2 dX12_isPart_45
  unfold mp_X12_isPart at hF
  revert hP hS
  generalize hLo : ([] : List Loc) = locs
  suffices h9 : ∀ (H : Heap) (locs : List Loc), va_P D vwCl (sm_wM σ α) H → va_S A s.heap H locs → W p l e (headSpec wp_X12_isPart { frames := 0, cells := 0, slots := 0, locals := 0 }).room s m ([.ref (α.1 1), .int p1, .int p2] : List Value).toArray below meth c H locs 0 0 (MQ below (va_Qi K (sm_B sm_wM D α) A) ([.ref (α.1 1), .int p1, .int p2] : List Value).toArray s 0 0 A) (F0 m 0 ls []) from fun hP hS => h9 s.heap locs hP hS
  intro H locs hP hS
  refine lv_aload_n hx hb dX12_isPart_0 rfl (lv_at hl 0 rfl) ?_
  refine va_get (D := D) (ci := 12) (v := .ref (α.1 25)) (C := RX12) (T := TX12) (N := 42) hx hb hts in_X12 hown hK hP 1 (sm_gX12 σ α) rfl 8 (by decide) k_0 (fun _ h9 => h9) rfl dX12_isPart_1 ?_
  refine lv_iload_n hx hb dX12_isPart_4 rfl (lv_at hl 1 rfl) ?_
  obtain ⟨h2, hF⟩ := hF
  refine va_bald (n := (σ.2.2.1 25)) (f := (σ.2.2.2.1 25)) hx hb hK hP 25 23 (sm_aM25 σ α) (sm_yM25 α) h2 dX12_isPart_5 ?_
  refine lv_if_ne (tgt := 39) hx hb dX12_isPart_6 (by decide) (fun h3 => ?_) (fun h3 => ?_)
  · replace hF := hF.1 h3
    refine lv_aload_n hx hb dX12_isPart_39 rfl (lv_at hl 0 rfl) ?_
    refine va_get (D := D) (ci := 12) (v := .ref (α.1 27)) (C := RX12) (T := TX12) (N := 42) hx hb hts in_X12 hown hK hP 1 (sm_gX12 σ α) rfl 10 (by decide) k_1 (fun _ h9 => h9) rfl dX12_isPart_40 ?_
    refine lv_iload_n hx hb dX12_isPart_43 rfl (lv_at hl 1 rfl) ?_
    obtain ⟨h4, hF⟩ := hF
    refine va_zald (n := (σ.2.2.1 27)) (f := (σ.2.2.2.1 27)) hx hb hK hP 27 25 (sm_aM27 σ α) (sm_yM27 α) h4 dX12_isPart_44 ?_
    exact B45 σ ((σ.2.2.2.1 27) p1.toNatClampNeg) hF H locs ls hP hS (lv_sub hl [] rfl)
  · replace hF := hF.2 h3
    refine lv_aload_n hx hb dX12_isPart_9 rfl (lv_at hl 0 rfl) ?_
    refine va_get (D := D) (ci := 12) (v := .ref (α.1 0)) (C := RX12) (T := TX12) (N := 42) hx hb hts in_X12 hown hK hP 1 (sm_gX12 σ α) rfl 0 (by decide) k_2 (fun _ h9 => h9) rfl dX12_isPart_10 ?_
    refine va_getN (D := D) (ci := 11) (v := .ref (α.1 7)) (C := RX11) (T := TX11) (N := 28) hx hb hts in_X11 hown hK hP 0 (sm_gX11 σ α) rfl 11 (by decide) (va_Nw.use rfl (hE.1 (.fieldLinkNest "SteadyMachineModel" 99 "SteadyMachineModel$Image" "fieldTypes" "[I" "SteadyMachineModel") (by decide +kernel))) (fun _ h9 => h9) rfl dX12_isPart_13 ?_
    refine lv_bipush (v := 15) hx hb dX12_isPart_16 (by decide) ?_
    refine lv_aload_n hx hb dX12_isPart_18 rfl (lv_at hl 0 rfl) ?_
    refine va_get (D := D) (ci := 12) (v := .ref (α.1 26)) (C := RX12) (T := TX12) (N := 42) hx hb hts in_X12 hown hK hP 1 (sm_gX12 σ α) rfl 9 (by decide) k_3 (fun _ h9 => h9) rfl dX12_isPart_19 ?_
    refine lv_iload_n hx hb dX12_isPart_22 rfl (lv_at hl 1 rfl) ?_
    obtain ⟨h5, hF⟩ := hF
    refine va_iald (n := (σ.2.2.1 26)) (f := (σ.2.2.2.1 26)) hx hb hK hP 26 24 (sm_aM26 σ α) (sm_yM26 α) h5 dX12_isPart_23 ?_
    refine lv_imul hx hb dX12_isPart_24 ?_
    refine lv_iload_n hx hb dX12_isPart_25 rfl (lv_at hl 2 rfl) ?_
    refine lv_iadd hx hb dX12_isPart_26 ?_
    obtain ⟨h6, hF⟩ := hF
    refine va_iald (n := (σ.2.2.1 7)) (f := (σ.2.2.2.1 7)) hx hb hK hP 7 5 (sm_aM7 σ α) (sm_yM7 α) h6 dX12_isPart_27 ?_
    refine lv_if_le (tgt := 35) hx hb dX12_isPart_28 (by decide) (fun h7 => ?_) (fun h7 => ?_)
    · replace hF := hF.1 h7
      refine lv_iconst (v := 0) hx hb dX12_isPart_35 (by decide) ?_
      refine lv_goto (tgt := 45) hx hb dX12_isPart_36 (by decide) ?_
      exact B45 σ 0 hF H locs ls hP hS (lv_sub hl [] rfl)
    · replace hF := hF.2 h7
      refine lv_iconst (v := 1) hx hb dX12_isPart_31 (by decide) ?_
      refine lv_goto (tgt := 45) hx hb dX12_isPart_32 (by decide) ?_
      exact B45 σ 1 hF H locs ls hP hS (lv_sub hl [] rfl)
theorem dX12_mark_0 : decode cX12_mark 0 = .ok (.iload_n 1, 1) := by decide +kernel
theorem dX12_mark_1 : decode cX12_mark 1 = .ok (.iconst (-1), 1) := by decide +kernel
theorem dX12_mark_2 : decode cX12_mark 2 = .ok (.if_icmp .eq 46, 3) := by decide +kernel
theorem dX12_mark_5 : decode cX12_mark 5 = .ok (.aload_n 0, 1) := by decide +kernel
theorem dX12_mark_6 : decode cX12_mark 6 = .ok (.getfield 195, 3) := by decide +kernel
theorem dX12_mark_9 : decode cX12_mark 9 = .ok (.iload_n 1, 1) := by decide +kernel
theorem dX12_mark_10 : decode cX12_mark 10 = .ok (.iaload, 1) := by decide +kernel
theorem dX12_mark_11 : decode cX12_mark 11 = .ok (.aload_n 0, 1) := by decide +kernel
theorem dX12_mark_12 : decode cX12_mark 12 = .ok (.getfield 253, 3) := by decide +kernel
theorem dX12_mark_15 : decode cX12_mark 15 = .ok (.if_icmp .eq 33, 3) := by decide +kernel
theorem dX12_mark_18 : decode cX12_mark 18 = .ok (.aload_n 0, 1) := by decide +kernel
theorem dX12_mark_19 : decode cX12_mark 19 = .ok (.getfield 195, 3) := by decide +kernel
theorem dX12_mark_22 : decode cX12_mark 22 = .ok (.iload_n 1, 1) := by decide +kernel
theorem dX12_mark_23 : decode cX12_mark 23 = .ok (.aload_n 0, 1) := by decide +kernel
theorem dX12_mark_24 : decode cX12_mark 24 = .ok (.getfield 253, 3) := by decide +kernel
theorem dX12_mark_27 : decode cX12_mark 27 = .ok (.iastore, 1) := by decide +kernel
theorem dX12_mark_28 : decode cX12_mark 28 = .ok (.aload_n 0, 1) := by decide +kernel
theorem dX12_mark_29 : decode cX12_mark 29 = .ok (.getfield 202, 3) := by decide +kernel
theorem dX12_mark_32 : decode cX12_mark 32 = .ok (.aload_n 0, 1) := by decide +kernel
theorem dX12_mark_33 : decode cX12_mark 33 = .ok (.getfield 295, 3) := by decide +kernel
theorem dX12_mark_36 : decode cX12_mark 36 = .ok (.iload_n 1, 1) := by decide +kernel
theorem dX12_mark_37 : decode cX12_mark 37 = .ok (.iastore, 1) := by decide +kernel
theorem dX12_mark_38 : decode cX12_mark 38 = .ok (.aload_n 0, 1) := by decide +kernel
theorem dX12_mark_39 : decode cX12_mark 39 = .ok (.dup, 1) := by decide +kernel
theorem dX12_mark_40 : decode cX12_mark 40 = .ok (.getfield 295, 3) := by decide +kernel
theorem dX12_mark_43 : decode cX12_mark 43 = .ok (.iconst 1, 1) := by decide +kernel
theorem dX12_mark_44 : decode cX12_mark 44 = .ok (.iadd, 1) := by decide +kernel
theorem dX12_mark_45 : decode cX12_mark 45 = .ok (.putfield 295, 3) := by decide +kernel
theorem dX12_mark_48 : decode cX12_mark 48 = .ok (.return_, 1) := by decide +kernel
def wp_X12_mark : List Cond := .code yX12_mark cX12_mark 2 none :: ([.fieldLink RX12 195 "SteadyMachineModel" "marked" "[I", .fieldLink RX12 253 "SteadyMachineModel" "stamp" "I", .fieldLink RX12 202 "SteadyMachineModel" "work" "[I", .fieldLink RX12 295 "SteadyMachineModel" "pile" "I"] ++ wsX120)
theorem wq_X12_mark : wp_X12_mark.all goodWord = true := wa_c rfl (wa_a (by decide +kernel) uq_X12)
theorem wt_X12_mark : GoodIn lw_tbl wp_X12_mark := wm_c (List.mem_of_getElem? (i := 1645) (by decide +kernel)) rfl (wm_a (goodIn_r _ [1503, 1504, 1507, 1529] (by decide +kernel) (by decide +kernel)) ut_X12)
theorem wi_X12_mark_X12 : ∀ w ∈ wsX120, w ∈ wp_X12_mark := fun w h => List.mem_cons_of_mem _ (List.mem_append_right _ h)
set_option maxHeartbeats 4000000 in
set_option maxRecDepth 100000 in
theorem c_X12_mark (l : Launch) (D : va_G) (sz t0 : Nat) (σ : sm_S) (α : sm_A) (p1 : Int32) (K : sm_S → Prop) (hF : mp_X12_mark σ p1 K) : Met l yX12_mark wp_X12_mark { frames := 0, cells := 0, slots := 0, locals := 0 } (sm_P sm_wM sm_tM 40 D sz t0 σ α [.ref (α.1 1), .int p1]) (va_Qv K (sm_B sm_wM D α) (sm_a α 40 sz)) 0 0 (sm_a α 40 sz) := by
  refine Met.ofW (cc := cX12_mark) (maxL := 2) (ret := none) (by decide) rfl ?_
  intro p e s m args below meth c s₁ B hml hv
  obtain ⟨rfl, hsz, hP, hK, hD0, hE⟩ := hv
  have hx := B.exec
  have hb := B.bytes
  have hr := B.returns
  have hts := atoms_spec (ws := wp_X12_mark) B.pre
  have hown : s.vm.findClass RX12 = some m.cls := findClass_of_methodNamed B.named
  have hlocks := B.notSynchronized
  subst hsz
  have hD : sm_D (sm_a α 40 s.heap.size) α 40 := hD0.own
  have hA : ∀ q : Nat, s.heap.size ≤ q → sm_a α 40 s.heap.size q := fun q h => Or.inr h
  generalize hAe : sm_a α 40 s.heap.size = A at hD hA hE ⊢
  have hS : va_S A s.heap s.heap [] := va_S.rf
  have in_X12 : ∀ w ∈ wsX120, w ∈ wp_X12_mark := wi_X12_mark_X12
  have k_0 := hts (.fieldLink RX12 195 "SteadyMachineModel" "marked" "[I") (by decide +kernel)
  have k_1 := hts (.fieldLink RX12 253 "SteadyMachineModel" "stamp" "I") (by decide +kernel)
  have k_2 := hts (.fieldLink RX12 202 "SteadyMachineModel" "work" "[I") (by decide +kernel)
  have k_3 := hts (.fieldLink RX12 295 "SteadyMachineModel" "pile" "I") (by decide +kernel)
  have hl := lv_entry ([.ref (α.1 1), .int p1]) (n := 2) (Nat.le_of_ble_eq_true rfl)
  rw [lg_entry_eq]
  generalize (lg_sl ([.ref (α.1 1), .int p1]) ++ List.replicate (2 - (lg_sl ([.ref (α.1 1), .int p1])).length) Slot.unset).toArray = ls at hl ⊢
  have hl : lv_has ls 2 [(0, .ref (α.1 1)), (1, .int p1)] := hl
  have B48 : ∀ (σ : sm_S), mp_X12_mark_48 K σ → sm_J p l e (headSpec wp_X12_mark { frames := 0, cells := 0, slots := 0, locals := 0 }).room s m ([.ref (α.1 1), .int p1] : List Value).toArray below meth c (MQ below (va_Qv K (sm_B sm_wM D α) A) ([.ref (α.1 1), .int p1] : List Value).toArray s 0 0 A) D A 2 (sm_wM σ α) 48 [] [] := by
    intro σ hF H locs ls hP hS hl
    unfold mp_X12_mark_48 at hF
    exact W.vret hx hb hr (fun t ht hW => ⟨⟨σ, rfl, hF, (by unfold sm_B; rw [ht]; exact hP)⟩, hS.F ht⟩) hS.2.2 dX12_mark_48
  unfold mp_X12_mark at hF
  revert hP hS
  generalize hLo : ([] : List Loc) = locs
  suffices h9 : ∀ (H : Heap) (locs : List Loc), va_P D vwCl (sm_wM σ α) H → va_S A s.heap H locs → W p l e (headSpec wp_X12_mark { frames := 0, cells := 0, slots := 0, locals := 0 }).room s m ([.ref (α.1 1), .int p1] : List Value).toArray below meth c H locs 0 0 (MQ below (va_Qv K (sm_B sm_wM D α) A) ([.ref (α.1 1), .int p1] : List Value).toArray s 0 0 A) (F0 m 0 ls []) from fun hP hS => h9 s.heap locs hP hS
  intro H locs hP hS
  refine lv_iload_n hx hb dX12_mark_0 rfl (lv_at hl 1 rfl) ?_
  refine lv_iconst (v := -1) hx hb dX12_mark_1 (by decide) ?_
  refine lv_icmp_eq (tgt := 48) hx hb dX12_mark_2 (by decide) (fun h1 => ?_) (fun h1 => ?_)
  · replace hF := hF.1 h1
    exact B48 σ hF H locs ls hP hS (lv_sub hl [] rfl)
  · replace hF := hF.2 h1
    refine lv_aload_n hx hb dX12_mark_5 rfl (lv_at hl 0 rfl) ?_
    refine va_get (D := D) (ci := 12) (v := .ref (α.1 30)) (C := RX12) (T := TX12) (N := 42) hx hb hts in_X12 hown hK hP 1 (sm_gX12 σ α) rfl 13 (by decide) k_0 (fun _ h9 => h9) rfl dX12_mark_6 ?_
    refine lv_iload_n hx hb dX12_mark_9 rfl (lv_at hl 1 rfl) ?_
    obtain ⟨h2, hF⟩ := hF
    refine va_iald (n := (σ.2.2.1 30)) (f := (σ.2.2.2.1 30)) hx hb hK hP 30 28 (sm_aM30 σ α) (sm_yM30 α) h2 dX12_mark_10 ?_
    refine lv_aload_n hx hb dX12_mark_11 rfl (lv_at hl 0 rfl) ?_
    refine va_get (D := D) (ci := 12) (v := .int (σ.1 12)) (C := RX12) (T := TX12) (N := 42) hx hb hts in_X12 hown hK hP 1 (sm_gX12 σ α) rfl 14 (by decide) k_1 (fun _ h9 => h9) rfl dX12_mark_12 ?_
    refine lv_icmp_eq (tgt := 48) hx hb dX12_mark_15 (by decide) (fun h3 => ?_) (fun h3 => ?_)
    · replace hF := hF.1 h3
      exact B48 σ hF H locs ls hP hS (lv_sub hl [] rfl)
    · replace hF := hF.2 h3
      refine lv_aload_n hx hb dX12_mark_18 rfl (lv_at hl 0 rfl) ?_
      refine va_get (D := D) (ci := 12) (v := .ref (α.1 30)) (C := RX12) (T := TX12) (N := 42) hx hb hts in_X12 hown hK hP 1 (sm_gX12 σ α) rfl 13 (by decide) k_0 (fun _ h9 => h9) rfl dX12_mark_19 ?_
      refine lv_iload_n hx hb dX12_mark_22 rfl (lv_at hl 1 rfl) ?_
      refine lv_aload_n hx hb dX12_mark_23 rfl (lv_at hl 0 rfl) ?_
      refine va_get (D := D) (ci := 12) (v := .int (σ.1 12)) (C := RX12) (T := TX12) (N := 42) hx hb hts in_X12 hown hK hP 1 (sm_gX12 σ α) rfl 14 (by decide) k_1 (fun _ h9 => h9) rfl dX12_mark_24 ?_
      obtain ⟨h4, hF⟩ := hF
      refine va_iast (n := (σ.2.2.1 30)) (f := (σ.2.2.2.1 30)) (x := (σ.1 12)) hx hb hK hP (hD.to (sm_wM_m _ _)) hS 30 28 (sm_aM30 σ α) (sm_yM30 α) h4 dX12_mark_27 (fun H locs hP _ hS => ?_)
      rw [sm_rM30] at hP
      obtain ⟨σ5, eσ5⟩ : ∃ x : sm_S, x = sm_r σ 30 (upd (σ.2.2.2.1 30) p1.toNatClampNeg (σ.1 12)) := ⟨_, rfl⟩
      replace hF := hF σ5 eσ5
      rw [← eσ5] at hP
      refine lv_aload_n hx hb dX12_mark_28 rfl (lv_at hl 0 rfl) ?_
      refine va_get (D := D) (ci := 12) (v := .ref (α.1 32)) (C := RX12) (T := TX12) (N := 42) hx hb hts in_X12 hown hK hP 1 (sm_gX12 σ5 α) rfl 17 (by decide) k_2 (fun _ h9 => h9) rfl dX12_mark_29 ?_
      refine lv_aload_n hx hb dX12_mark_32 rfl (lv_at hl 0 rfl) ?_
      refine va_get (D := D) (ci := 12) (v := .int (σ5.1 25)) (C := RX12) (T := TX12) (N := 42) hx hb hts in_X12 hown hK hP 1 (sm_gX12 σ5 α) rfl 39 (by decide) k_3 (fun _ h9 => h9) rfl dX12_mark_33 ?_
      refine lv_iload_n hx hb dX12_mark_36 rfl (lv_at hl 1 rfl) ?_
      obtain ⟨h6, hF⟩ := hF
      refine va_iast (n := (σ5.2.2.1 32)) (f := (σ5.2.2.2.1 32)) (x := p1) hx hb hK hP (hD.to (sm_wM_m _ _)) hS 32 30 (sm_aM32 σ5 α) (sm_yM32 α) h6 dX12_mark_37 (fun H locs hP _ hS => ?_)
      rw [sm_rM32] at hP
      obtain ⟨σ7, eσ7⟩ : ∃ x : sm_S, x = sm_r σ5 32 (upd (σ5.2.2.2.1 32) (σ5.1 25).toNatClampNeg p1) := ⟨_, rfl⟩
      replace hF := hF σ7 eσ7
      rw [← eσ7] at hP
      refine lv_aload_n hx hb dX12_mark_38 rfl (lv_at hl 0 rfl) ?_
      refine lv_dup hx hb dX12_mark_39 rfl ?_
      refine va_get (D := D) (ci := 12) (v := .int (σ7.1 25)) (C := RX12) (T := TX12) (N := 42) hx hb hts in_X12 hown hK hP 1 (sm_gX12 σ7 α) rfl 39 (by decide) k_3 (fun _ h9 => h9) rfl dX12_mark_40 ?_
      refine lv_iconst (v := 1) hx hb dX12_mark_43 (by decide) ?_
      refine lv_iadd hx hb dX12_mark_44 ?_
      refine va_put (D := D) (ci := 12) (v := .int ((σ7.1 25) + 1)) (ty := .int) (C := RX12) (T := TX12) (N := 42) hx hb hts in_X12 tyX12 tyX12_ok nmX12 hown hK hP (hD.to (sm_wM_m _ _)) hS 1 (sm_gX12 σ7 α) rfl 39 (by decide) k_3 (fun _ h9 => h9) rfl (by decide +kernel) rfl rfl (Nat.le_of_ble_eq_true rfl) dX12_mark_45 (fun H locs hP _ hS => ?_)
      rw [sm_iM25] at hP
      obtain ⟨σ8, eσ8⟩ : ∃ x : sm_S, x = sm_i σ7 25 ((σ7.1 25) + 1) := ⟨_, rfl⟩
      replace hF := hF σ8 eσ8
      rw [← eσ8] at hP
      exact B48 σ8 hF H locs ls hP hS (lv_sub hl [] rfl)
theorem dX12_reach_0 : decode cX12_reach 0 = .ok (.aload_n 0, 1) := by decide +kernel
theorem dX12_reach_1 : decode cX12_reach 1 = .ok (.dup, 1) := by decide +kernel
theorem dX12_reach_2 : decode cX12_reach 2 = .ok (.getfield 253, 3) := by decide +kernel
theorem dX12_reach_5 : decode cX12_reach 5 = .ok (.iconst 1, 1) := by decide +kernel
theorem dX12_reach_6 : decode cX12_reach 6 = .ok (.iadd, 1) := by decide +kernel
theorem dX12_reach_7 : decode cX12_reach 7 = .ok (.putfield 253, 3) := by decide +kernel
theorem dX12_reach_10 : decode cX12_reach 10 = .ok (.aload_n 0, 1) := by decide +kernel
theorem dX12_reach_11 : decode cX12_reach 11 = .ok (.iconst 0, 1) := by decide +kernel
theorem dX12_reach_12 : decode cX12_reach 12 = .ok (.putfield 295, 3) := by decide +kernel
theorem dX12_reach_15 : decode cX12_reach 15 = .ok (.bipush 16, 2) := by decide +kernel
theorem dX12_reach_17 : decode cX12_reach 17 = .ok (.aload_n 0, 1) := by decide +kernel
theorem dX12_reach_18 : decode cX12_reach 18 = .ok (.getfield 256, 3) := by decide +kernel
theorem dX12_reach_21 : decode cX12_reach 21 = .ok (.imul, 1) := by decide +kernel
theorem dX12_reach_22 : decode cX12_reach 22 = .ok (.istore_n 1, 1) := by decide +kernel
theorem dX12_reach_23 : decode cX12_reach 23 = .ok (.iconst 0, 1) := by decide +kernel
theorem dX12_reach_24 : decode cX12_reach 24 = .ok (.istore_n 2, 1) := by decide +kernel
theorem dX12_reach_25 : decode cX12_reach 25 = .ok (.iload_n 2, 1) := by decide +kernel
theorem dX12_reach_26 : decode cX12_reach 26 = .ok (.aload_n 0, 1) := by decide +kernel
theorem dX12_reach_27 : decode cX12_reach 27 = .ok (.getfield 256, 3) := by decide +kernel
theorem dX12_reach_30 : decode cX12_reach 30 = .ok (.if_icmp .ge 77, 3) := by decide +kernel
theorem dX12_reach_33 : decode cX12_reach 33 = .ok (.aload_n 0, 1) := by decide +kernel
theorem dX12_reach_34 : decode cX12_reach 34 = .ok (.getfield 10, 3) := by decide +kernel
theorem dX12_reach_37 : decode cX12_reach 37 = .ok (.getfield 27, 3) := by decide +kernel
theorem dX12_reach_40 : decode cX12_reach 40 = .ok (.aload_n 0, 1) := by decide +kernel
theorem dX12_reach_41 : decode cX12_reach 41 = .ok (.getfield 205, 3) := by decide +kernel
theorem dX12_reach_44 : decode cX12_reach 44 = .ok (.iload_n 2, 1) := by decide +kernel
theorem dX12_reach_45 : decode cX12_reach 45 = .ok (.iaload, 1) := by decide +kernel
theorem dX12_reach_46 : decode cX12_reach 46 = .ok (.iaload, 1) := by decide +kernel
theorem dX12_reach_47 : decode cX12_reach 47 = .ok (.aload_n 0, 1) := by decide +kernel
theorem dX12_reach_48 : decode cX12_reach 48 = .ok (.getfield 211, 3) := by decide +kernel
theorem dX12_reach_51 : decode cX12_reach 51 = .ok (.iload_n 2, 1) := by decide +kernel
theorem dX12_reach_52 : decode cX12_reach 52 = .ok (.iaload, 1) := by decide +kernel
theorem dX12_reach_53 : decode cX12_reach 53 = .ok (.iadd, 1) := by decide +kernel
theorem dX12_reach_54 : decode cX12_reach 54 = .ok (.istore_n 3, 1) := by decide +kernel
theorem dX12_reach_55 : decode cX12_reach 55 = .ok (.iconst 0, 1) := by decide +kernel
theorem dX12_reach_56 : decode cX12_reach 56 = .ok (.istore 4, 2) := by decide +kernel
theorem dX12_reach_58 : decode cX12_reach 58 = .ok (.iload 4, 2) := by decide +kernel
theorem dX12_reach_60 : decode cX12_reach 60 = .ok (.iload_n 3, 1) := by decide +kernel
theorem dX12_reach_61 : decode cX12_reach 61 = .ok (.if_icmp .ge 40, 3) := by decide +kernel
theorem dX12_reach_64 : decode cX12_reach 64 = .ok (.aload_n 0, 1) := by decide +kernel
theorem dX12_reach_65 : decode cX12_reach 65 = .ok (.getfield 218, 3) := by decide +kernel
theorem dX12_reach_68 : decode cX12_reach 68 = .ok (.bipush 12, 2) := by decide +kernel
theorem dX12_reach_70 : decode cX12_reach 70 = .ok (.iload_n 2, 1) := by decide +kernel
theorem dX12_reach_71 : decode cX12_reach 71 = .ok (.imul, 1) := by decide +kernel
theorem dX12_reach_72 : decode cX12_reach 72 = .ok (.iload 4, 2) := by decide +kernel
theorem dX12_reach_74 : decode cX12_reach 74 = .ok (.iadd, 1) := by decide +kernel
theorem dX12_reach_75 : decode cX12_reach 75 = .ok (.baload, 1) := by decide +kernel
theorem dX12_reach_76 : decode cX12_reach 76 = .ok (.ifCond .eq 19, 3) := by decide +kernel
theorem dX12_reach_79 : decode cX12_reach 79 = .ok (.aload_n 0, 1) := by decide +kernel
theorem dX12_reach_80 : decode cX12_reach 80 = .ok (.aload_n 0, 1) := by decide +kernel
theorem dX12_reach_81 : decode cX12_reach 81 = .ok (.getfield 215, 3) := by decide +kernel
theorem dX12_reach_84 : decode cX12_reach 84 = .ok (.bipush 12, 2) := by decide +kernel
theorem dX12_reach_86 : decode cX12_reach 86 = .ok (.iload_n 2, 1) := by decide +kernel
theorem dX12_reach_87 : decode cX12_reach 87 = .ok (.imul, 1) := by decide +kernel
theorem dX12_reach_88 : decode cX12_reach 88 = .ok (.iload 4, 2) := by decide +kernel
theorem dX12_reach_90 : decode cX12_reach 90 = .ok (.iadd, 1) := by decide +kernel
theorem dX12_reach_91 : decode cX12_reach 91 = .ok (.iaload, 1) := by decide +kernel
theorem dX12_reach_92 : decode cX12_reach 92 = .ok (.invokevirtual 298, 3) := by decide +kernel
theorem dX12_reach_95 : decode cX12_reach 95 = .ok (.iinc 4 1, 3) := by decide +kernel
theorem dX12_reach_98 : decode cX12_reach 98 = .ok (.goto (-40), 3) := by decide +kernel
theorem dX12_reach_101 : decode cX12_reach 101 = .ok (.iinc 2 1, 3) := by decide +kernel
theorem dX12_reach_104 : decode cX12_reach 104 = .ok (.goto (-79), 3) := by decide +kernel
theorem dX12_reach_107 : decode cX12_reach 107 = .ok (.aload_n 0, 1) := by decide +kernel
theorem dX12_reach_108 : decode cX12_reach 108 = .ok (.getfield 259, 3) := by decide +kernel
theorem dX12_reach_111 : decode cX12_reach 111 = .ok (.ifCond .eq 11, 3) := by decide +kernel
theorem dX12_reach_114 : decode cX12_reach 114 = .ok (.aload_n 0, 1) := by decide +kernel
theorem dX12_reach_115 : decode cX12_reach 115 = .ok (.aload_n 0, 1) := by decide +kernel
theorem dX12_reach_116 : decode cX12_reach 116 = .ok (.getfield 301, 3) := by decide +kernel
theorem dX12_reach_119 : decode cX12_reach 119 = .ok (.invokevirtual 298, 3) := by decide +kernel
theorem dX12_reach_122 : decode cX12_reach 122 = .ok (.aload_n 0, 1) := by decide +kernel
theorem dX12_reach_123 : decode cX12_reach 123 = .ok (.getfield 295, 3) := by decide +kernel
theorem dX12_reach_126 : decode cX12_reach 126 = .ok (.ifCond .le 79, 3) := by decide +kernel
theorem dX12_reach_129 : decode cX12_reach 129 = .ok (.aload_n 0, 1) := by decide +kernel
theorem dX12_reach_130 : decode cX12_reach 130 = .ok (.dup, 1) := by decide +kernel
theorem dX12_reach_131 : decode cX12_reach 131 = .ok (.getfield 295, 3) := by decide +kernel
theorem dX12_reach_134 : decode cX12_reach 134 = .ok (.iconst 1, 1) := by decide +kernel
theorem dX12_reach_135 : decode cX12_reach 135 = .ok (.isub, 1) := by decide +kernel
theorem dX12_reach_136 : decode cX12_reach 136 = .ok (.putfield 295, 3) := by decide +kernel
theorem dX12_reach_139 : decode cX12_reach 139 = .ok (.aload_n 0, 1) := by decide +kernel
theorem dX12_reach_140 : decode cX12_reach 140 = .ok (.getfield 202, 3) := by decide +kernel
theorem dX12_reach_143 : decode cX12_reach 143 = .ok (.aload_n 0, 1) := by decide +kernel
theorem dX12_reach_144 : decode cX12_reach 144 = .ok (.getfield 295, 3) := by decide +kernel
theorem dX12_reach_147 : decode cX12_reach 147 = .ok (.iaload, 1) := by decide +kernel
theorem dX12_reach_148 : decode cX12_reach 148 = .ok (.istore_n 2, 1) := by decide +kernel
theorem dX12_reach_149 : decode cX12_reach 149 = .ok (.iload_n 1, 1) := by decide +kernel
theorem dX12_reach_150 : decode cX12_reach 150 = .ok (.aload_n 0, 1) := by decide +kernel
theorem dX12_reach_151 : decode cX12_reach 151 = .ok (.iload_n 2, 1) := by decide +kernel
theorem dX12_reach_152 : decode cX12_reach 152 = .ok (.invokevirtual 304, 3) := by decide +kernel
theorem dX12_reach_155 : decode cX12_reach 155 = .ok (.iadd, 1) := by decide +kernel
theorem dX12_reach_156 : decode cX12_reach 156 = .ok (.istore_n 1, 1) := by decide +kernel
theorem dX12_reach_157 : decode cX12_reach 157 = .ok (.iconst 0, 1) := by decide +kernel
theorem dX12_reach_158 : decode cX12_reach 158 = .ok (.istore_n 3, 1) := by decide +kernel
theorem dX12_reach_159 : decode cX12_reach 159 = .ok (.iload_n 3, 1) := by decide +kernel
theorem dX12_reach_160 : decode cX12_reach 160 = .ok (.aload_n 0, 1) := by decide +kernel
theorem dX12_reach_161 : decode cX12_reach 161 = .ok (.iload_n 2, 1) := by decide +kernel
theorem dX12_reach_162 : decode cX12_reach 162 = .ok (.invokevirtual 304, 3) := by decide +kernel
theorem dX12_reach_165 : decode cX12_reach 165 = .ok (.iconst 1, 1) := by decide +kernel
theorem dX12_reach_166 : decode cX12_reach 166 = .ok (.isub, 1) := by decide +kernel
theorem dX12_reach_167 : decode cX12_reach 167 = .ok (.if_icmp .ge 35, 3) := by decide +kernel
theorem dX12_reach_170 : decode cX12_reach 170 = .ok (.aload_n 0, 1) := by decide +kernel
theorem dX12_reach_171 : decode cX12_reach 171 = .ok (.iload_n 2, 1) := by decide +kernel
theorem dX12_reach_172 : decode cX12_reach 172 = .ok (.iload_n 3, 1) := by decide +kernel
theorem dX12_reach_173 : decode cX12_reach 173 = .ok (.invokevirtual 307, 3) := by decide +kernel
theorem dX12_reach_176 : decode cX12_reach 176 = .ok (.ifCond .eq 20, 3) := by decide +kernel
theorem dX12_reach_179 : decode cX12_reach 179 = .ok (.aload_n 0, 1) := by decide +kernel
theorem dX12_reach_180 : decode cX12_reach 180 = .ok (.aload_n 0, 1) := by decide +kernel
theorem dX12_reach_181 : decode cX12_reach 181 = .ok (.getfield 199, 3) := by decide +kernel
theorem dX12_reach_184 : decode cX12_reach 184 = .ok (.aload_n 0, 1) := by decide +kernel
theorem dX12_reach_185 : decode cX12_reach 185 = .ok (.getfield 192, 3) := by decide +kernel
theorem dX12_reach_188 : decode cX12_reach 188 = .ok (.iload_n 2, 1) := by decide +kernel
theorem dX12_reach_189 : decode cX12_reach 189 = .ok (.iaload, 1) := by decide +kernel
theorem dX12_reach_190 : decode cX12_reach 190 = .ok (.iload_n 3, 1) := by decide +kernel
theorem dX12_reach_191 : decode cX12_reach 191 = .ok (.iadd, 1) := by decide +kernel
theorem dX12_reach_192 : decode cX12_reach 192 = .ok (.iaload, 1) := by decide +kernel
theorem dX12_reach_193 : decode cX12_reach 193 = .ok (.invokevirtual 298, 3) := by decide +kernel
theorem dX12_reach_196 : decode cX12_reach 196 = .ok (.iinc 3 1, 3) := by decide +kernel
theorem dX12_reach_199 : decode cX12_reach 199 = .ok (.goto (-40), 3) := by decide +kernel
theorem dX12_reach_202 : decode cX12_reach 202 = .ok (.goto (-80), 3) := by decide +kernel
theorem dX12_reach_205 : decode cX12_reach 205 = .ok (.iload_n 1, 1) := by decide +kernel
theorem dX12_reach_206 : decode cX12_reach 206 = .ok (.ireturn, 1) := by decide +kernel
def wp_X12_reach : List Cond := .code yX12_reach cX12_reach 5 (some .int) :: ((((([.fieldLink RX12 199 "SteadyMachineModel" "cells" "[I", .fieldLink RX12 192 "SteadyMachineModel" "begins" "[I", .fieldLink RX12 295 "SteadyMachineModel" "pile" "I", .fieldLink RX12 202 "SteadyMachineModel" "work" "[I", .fieldLink RX12 218 "SteadyMachineModel" "isThing" "[Z", .fieldLink RX12 215 "SteadyMachineModel" "valueAt" "[I", .fieldLink RX12 256 "SteadyMachineModel" "frames" "I", .fieldLink RX12 259 "SteadyMachineModel" "flies" "Z", .fieldLink RX12 301 "SteadyMachineModel" "flying" "I", .fieldLink RX12 10 "SteadyMachineModel" "image" "LSteadyMachineModel$Image;", .fieldLink RX12 205 "SteadyMachineModel" "methodOf" "[I", .fieldLink RX12 211 "SteadyMachineModel" "highOf" "[I", .fieldLink RX12 253 "SteadyMachineModel" "stamp" "I"] ++ (wsV RX12 304 RX12 yX12_cellsOf wp_X12_cellsOf)) ++ (wsV RX12 307 RX12 yX12_isPart wp_X12_isPart)) ++ (wsV RX12 298 RX12 yX12_mark wp_X12_mark)) ++ wsX110) ++ wsX120)
theorem wq_X12_reach : wp_X12_reach.all goodWord = true := wa_c rfl (wa_a (wa_a (wa_a (wa_a (wa_a (by decide +kernel) (wa_V wq_X12_cellsOf)) (wa_V wq_X12_isPart)) (wa_V wq_X12_mark)) uq_X11) uq_X12)
set_option maxRecDepth 200000 in
theorem wt_X12_reach : GoodIn lw_tbl wp_X12_reach := wm_c (List.mem_of_getElem? (i := 1641) rfl) rfl (wm_a (wm_a (wm_a (wm_a (wm_a (goodIn_r _ [1506, 1502, 1529, 1507, 1513, 1512, 1508, 1514, 1515, 1490, 1509, 1511, 1504] (by decide +kernel) (by decide +kernel)) (wm_a (goodIn_r _ [1646, 1648, 106, 147] (by decide +kernel) (by decide +kernel)) wt_X12_cellsOf)) (wm_a (goodIn_r _ [1650, 1652, 107, 147] (by decide +kernel) (by decide +kernel)) wt_X12_isPart)) (wm_a (goodIn_r _ [1642, 1644, 105, 147] (by decide +kernel) (by decide +kernel)) wt_X12_mark)) ut_X11) ut_X12)
theorem wg_X12_reach_X12_cellsOf_304 : GoodIn wp_X12_reach (wsV RX12 304 RX12 yX12_cellsOf wp_X12_cellsOf) := goodIn_sub (fun w h => List.mem_cons_of_mem _ (List.mem_append_left _ (List.mem_append_left _ (List.mem_append_left _ (List.mem_append_left _ (List.mem_append_right _ h)))))) (wa_V wq_X12_cellsOf)
theorem wg_X12_reach_X12_isPart_307 : GoodIn wp_X12_reach (wsV RX12 307 RX12 yX12_isPart wp_X12_isPart) := goodIn_sub (fun w h => List.mem_cons_of_mem _ (List.mem_append_left _ (List.mem_append_left _ (List.mem_append_left _ (List.mem_append_right _ h))))) (wa_V wq_X12_isPart)
theorem wg_X12_reach_X12_mark_298 : GoodIn wp_X12_reach (wsV RX12 298 RX12 yX12_mark wp_X12_mark) := goodIn_sub (fun w h => List.mem_cons_of_mem _ (List.mem_append_left _ (List.mem_append_left _ (List.mem_append_right _ h)))) (wa_V wq_X12_mark)
theorem wi_X12_reach_X11 : ∀ w ∈ wsX110, w ∈ wp_X12_reach := fun w h => List.mem_cons_of_mem _ (List.mem_append_left _ (List.mem_append_right _ h))
theorem wi_X12_reach_X12 : ∀ w ∈ wsX120, w ∈ wp_X12_reach := fun w h => List.mem_cons_of_mem _ (List.mem_append_right _ h)
set_option maxHeartbeats 4000000 in
set_option maxRecDepth 100000 in
theorem c_X12_reach (l : Launch) (D : va_G) (sz t0 : Nat) (σ : sm_S) (α : sm_A) (K : Int32 → sm_S → Prop) (hF : mp_X12_reach σ K) : Met l yX12_reach wp_X12_reach { frames := 1, cells := 0, slots := 0, locals := 22 } (sm_P sm_wM sm_tM 40 D sz t0 σ α [.ref (α.1 1)]) (va_Qi K (sm_B sm_wM D α) (sm_a α 40 sz)) 0 0 (sm_a α 40 sz) := by
  refine Met.ofW (cc := cX12_reach) (maxL := 5) (ret := (some .int)) (by decide) rfl ?_
  intro p e s m args below meth c s₁ B hml hv
  obtain ⟨rfl, hsz, hP, hK, hD0, hE⟩ := hv
  have hx := B.exec
  have hb := B.bytes
  have hr := B.returns
  have hts := atoms_spec (ws := wp_X12_reach) B.pre
  have hown : s.vm.findClass RX12 = some m.cls := findClass_of_methodNamed B.named
  have hlocks := B.notSynchronized
  subst hsz
  have hD : sm_D (sm_a α 40 s.heap.size) α 40 := hD0.own
  have hA : ∀ q : Nat, s.heap.size ≤ q → sm_a α 40 s.heap.size q := fun q h => Or.inr h
  generalize hAe : sm_a α 40 s.heap.size = A at hD hA hE ⊢
  have hS : va_S A s.heap s.heap [] := va_S.rf
  have in_X11 : ∀ w ∈ wsX110, w ∈ wp_X12_reach := wi_X12_reach_X11
  have in_X12 : ∀ w ∈ wsX120, w ∈ wp_X12_reach := wi_X12_reach_X12
  have k_0 := hts (.fieldLink RX12 199 "SteadyMachineModel" "cells" "[I") (by decide +kernel)
  have k_1 := hts (.fieldLink RX12 192 "SteadyMachineModel" "begins" "[I") (by decide +kernel)
  have k_2 := hts (.fieldLink RX12 295 "SteadyMachineModel" "pile" "I") (by decide +kernel)
  have k_3 := hts (.fieldLink RX12 202 "SteadyMachineModel" "work" "[I") (by decide +kernel)
  have k_4 := hts (.fieldLink RX12 218 "SteadyMachineModel" "isThing" "[Z") (by decide +kernel)
  have k_5 := hts (.fieldLink RX12 215 "SteadyMachineModel" "valueAt" "[I") (by decide +kernel)
  have k_6 := hts (.fieldLink RX12 256 "SteadyMachineModel" "frames" "I") (by decide +kernel)
  have k_7 := hts (.fieldLink RX12 259 "SteadyMachineModel" "flies" "Z") (by decide +kernel)
  have k_8 := hts (.fieldLink RX12 301 "SteadyMachineModel" "flying" "I") (by decide +kernel)
  have k_9 := hts (.fieldLink RX12 10 "SteadyMachineModel" "image" "LSteadyMachineModel$Image;") (by decide +kernel)
  have k_10 := hts (.fieldLink RX12 205 "SteadyMachineModel" "methodOf" "[I") (by decide +kernel)
  have k_11 := hts (.fieldLink RX12 211 "SteadyMachineModel" "highOf" "[I") (by decide +kernel)
  have k_12 := hts (.fieldLink RX12 253 "SteadyMachineModel" "stamp" "I") (by decide +kernel)
  have hl := lv_entry ([.ref (α.1 1)]) (n := 5) (Nat.le_of_ble_eq_true rfl)
  rw [lg_entry_eq]
  generalize (lg_sl ([.ref (α.1 1)]) ++ List.replicate (5 - (lg_sl ([.ref (α.1 1)])).length) Slot.unset).toArray = ls at hl ⊢
  have hl : lv_has ls 5 [(0, .ref (α.1 1))] := hl
  have B196 : ∀ (L122 : sm_S → Int32 → Prop) (hL122 : ∀ (σ : sm_S) (x1 : Int32), L122 σ x1 → sm_J p l e (headSpec wp_X12_reach { frames := 1, cells := 0, slots := 0, locals := 22 }).room s m ([.ref (α.1 1)] : List Value).toArray below meth c (MQ below (va_Qi K (sm_B sm_wM D α) A) ([.ref (α.1 1)] : List Value).toArray s 0 0 A) D A 5 (sm_wM σ α) 122 [(0, .ref (α.1 1)), (1, .int x1)] []) (L159 : sm_S → Int32 → Int32 → Int32 → Prop) (hL159 : ∀ (σ : sm_S) (x1 : Int32) (x2 : Int32) (x3 : Int32), L159 σ x1 x2 x3 → sm_J p l e (headSpec wp_X12_reach { frames := 1, cells := 0, slots := 0, locals := 22 }).room s m ([.ref (α.1 1)] : List Value).toArray below meth c (MQ below (va_Qi K (sm_B sm_wM D α) A) ([.ref (α.1 1)] : List Value).toArray s 0 0 A) D A 5 (sm_wM σ α) 159 [(0, .ref (α.1 1)), (1, .int x1), (2, .int x2), (3, .int x3)] []) (σ : sm_S) (x1 : Int32) (x2 : Int32) (x3 : Int32), mp_X12_reach_196 L122 L159 K σ x1 x2 x3 → sm_J p l e (headSpec wp_X12_reach { frames := 1, cells := 0, slots := 0, locals := 22 }).room s m ([.ref (α.1 1)] : List Value).toArray below meth c (MQ below (va_Qi K (sm_B sm_wM D α) A) ([.ref (α.1 1)] : List Value).toArray s 0 0 A) D A 5 (sm_wM σ α) 196 [(0, .ref (α.1 1)), (1, .int x1), (2, .int x2), (3, .int x3)] [] := by
    intro L122 hL122 L159 hL159 σ x1 x2 x3 hF H locs ls hP hS hl
    unfold mp_X12_reach_196 at hF
    obtain ⟨v1, ev1⟩ : ∃ y : Int32, y = x3 + 1 := ⟨_, rfl⟩
    replace hF := hF v1 ev1
    refine lv_iinc (v := v1) (lv' := [(3, .int v1), (0, .ref (α.1 1)), (1, .int x1), (2, .int x2)]) hx hb dX12_reach_196 hl (k := 3) rfl (by rw [ev1]; rfl) (by decide) rfl (fun ls hl => ?_)
    refine lv_goto (tgt := 159) hx hb dX12_reach_199 (by decide) ?_
    exact hL159 σ x1 x2 v1 hF H locs ls hP hS (lv_sub hl [1, 2, 3, 0] rfl)
  have B159 : ∀ (L122 : sm_S → Int32 → Prop) (hL122 : ∀ (σ : sm_S) (x1 : Int32), L122 σ x1 → sm_J p l e (headSpec wp_X12_reach { frames := 1, cells := 0, slots := 0, locals := 22 }).room s m ([.ref (α.1 1)] : List Value).toArray below meth c (MQ below (va_Qi K (sm_B sm_wM D α) A) ([.ref (α.1 1)] : List Value).toArray s 0 0 A) D A 5 (sm_wM σ α) 122 [(0, .ref (α.1 1)), (1, .int x1)] []) (n : Nat) (σ : sm_S) (x1 : Int32) (x2 : Int32) (x3 : Int32), mp_X12_reach_159 L122 K n σ x1 x2 x3 → sm_J p l e (headSpec wp_X12_reach { frames := 1, cells := 0, slots := 0, locals := 22 }).room s m ([.ref (α.1 1)] : List Value).toArray below meth c (MQ below (va_Qi K (sm_B sm_wM D α) A) ([.ref (α.1 1)] : List Value).toArray s 0 0 A) D A 5 (sm_wM σ α) 159 [(0, .ref (α.1 1)), (1, .int x1), (2, .int x2), (3, .int x3)] [] := by
    intro L122 hL122 n159
    induction n159 with
    | zero =>
      intro σ x1 x2 x3 hF
      exact hF.elim
    | succ n159 ih159 =>
      intro σ x1 x2 x3 hF H locs ls hP hS hl
      unfold mp_X12_reach_159 at hF
      refine lv_iload_n hx hb dX12_reach_159 rfl (lv_at hl 3 rfl) ?_
      refine lv_aload_n hx hb dX12_reach_160 rfl (lv_at hl 0 rfl) ?_
      refine lv_iload_n hx hb dX12_reach_161 rfl (lv_at hl 2 rfl) ?_
      refine sm_vi (As := [.int x2]) (rest := [.int x3]) hP hK hD hE hS hA ⟨hx, hb, hml, hown, hts⟩ hl.1 (c_X12_cellsOf l D H.size t0 σ α x2 _ hF) (cwV 1 hts wg_X12_reach_X12_cellsOf_304 rfl rfl rfl (by decide +kernel) ⟨Nat.le_of_ble_eq_true rfl, Nat.le_of_ble_eq_true rfl⟩) (va_recv hK hP (ci := 12) (q0 := 1) rfl (sm_gX12 σ α)) rfl rfl (Nat.le_of_ble_eq_true rfl) dX12_reach_162 ⟨Nat.zero_le _, Nat.zero_le _⟩ (fun r3 σ2 H locs hF hP hS => ?_)
      refine lv_iconst (v := 1) hx hb dX12_reach_165 (by decide) ?_
      refine lv_isub hx hb dX12_reach_166 ?_
      refine lv_icmp_ge (tgt := 202) hx hb dX12_reach_167 (by decide) (fun h4 => ?_) (fun h4 => ?_)
      · replace hF := hF.1 h4
        refine lv_goto (tgt := 122) hx hb dX12_reach_202 (by decide) ?_
        exact hL122 σ2 x1 hF H locs ls hP hS (lv_sub hl [0, 1] rfl)
      · replace hF := hF.2 h4
        refine lv_aload_n hx hb dX12_reach_170 rfl (lv_at hl 0 rfl) ?_
        refine lv_iload_n hx hb dX12_reach_171 rfl (lv_at hl 2 rfl) ?_
        refine lv_iload_n hx hb dX12_reach_172 rfl (lv_at hl 3 rfl) ?_
        refine sm_vi (As := [.int x2, .int x3]) (rest := []) hP hK hD hE hS hA ⟨hx, hb, hml, hown, hts⟩ hl.1 (c_X12_isPart l D H.size t0 σ2 α x2 x3 _ hF) (cwV 2 hts wg_X12_reach_X12_isPart_307 rfl rfl rfl (by decide +kernel) ⟨Nat.le_of_ble_eq_true rfl, Nat.le_of_ble_eq_true rfl⟩) (va_recv hK hP (ci := 12) (q0 := 1) rfl (sm_gX12 σ2 α)) rfl rfl (Nat.le_of_ble_eq_true rfl) dX12_reach_173 ⟨Nat.zero_le _, Nat.zero_le _⟩ (fun r6 σ5 H locs hF hP hS => ?_)
        refine lv_if_eq (tgt := 196) hx hb dX12_reach_176 (by decide) (fun h7 => ?_) (fun h7 => ?_)
        · replace hF := hF.1 h7
          exact B196 L122 hL122 (mp_X12_reach_159 L122 K n159) ih159 σ5 x1 x2 x3 hF H locs ls hP hS (lv_sub hl [0, 1, 2, 3] rfl)
        · replace hF := hF.2 h7
          refine lv_aload_n hx hb dX12_reach_179 rfl (lv_at hl 0 rfl) ?_
          refine lv_aload_n hx hb dX12_reach_180 rfl (lv_at hl 0 rfl) ?_
          refine va_get (D := D) (ci := 12) (v := .ref (α.1 31)) (C := RX12) (T := TX12) (N := 42) hx hb hts in_X12 hown hK hP 1 (sm_gX12 σ5 α) rfl 16 (by decide) k_0 (fun _ h9 => h9) rfl dX12_reach_181 ?_
          refine lv_aload_n hx hb dX12_reach_184 rfl (lv_at hl 0 rfl) ?_
          refine va_get (D := D) (ci := 12) (v := .ref (α.1 29)) (C := RX12) (T := TX12) (N := 42) hx hb hts in_X12 hown hK hP 1 (sm_gX12 σ5 α) rfl 12 (by decide) k_1 (fun _ h9 => h9) rfl dX12_reach_185 ?_
          refine lv_iload_n hx hb dX12_reach_188 rfl (lv_at hl 2 rfl) ?_
          obtain ⟨h8, hF⟩ := hF
          refine va_iald (n := (σ5.2.2.1 29)) (f := (σ5.2.2.2.1 29)) hx hb hK hP 29 27 (sm_aM29 σ5 α) (sm_yM29 α) h8 dX12_reach_189 ?_
          refine lv_iload_n hx hb dX12_reach_190 rfl (lv_at hl 3 rfl) ?_
          refine lv_iadd hx hb dX12_reach_191 ?_
          obtain ⟨h9, hF⟩ := hF
          refine va_iald (n := (σ5.2.2.1 31)) (f := (σ5.2.2.2.1 31)) hx hb hK hP 31 29 (sm_aM31 σ5 α) (sm_yM31 α) h9 dX12_reach_192 ?_
          refine sm_vv (As := [.int ((σ5.2.2.2.1 31) (((σ5.2.2.2.1 29) x2.toNatClampNeg) + x3).toNatClampNeg)]) (rest := []) hP hK hD hE hS hA ⟨hx, hb, hml, hown, hts⟩ hl.1 (c_X12_mark l D H.size t0 σ5 α ((σ5.2.2.2.1 31) (((σ5.2.2.2.1 29) x2.toNatClampNeg) + x3).toNatClampNeg) _ hF) (cwV 1 hts wg_X12_reach_X12_mark_298 rfl rfl rfl (by decide +kernel) ⟨Nat.le_of_ble_eq_true rfl, Nat.le_of_ble_eq_true rfl⟩) (va_recv hK hP (ci := 12) (q0 := 1) rfl (sm_gX12 σ5 α)) rfl rfl (Nat.le_of_ble_eq_true rfl) dX12_reach_193 ⟨Nat.zero_le _, Nat.zero_le _⟩ (fun σ10 H locs hF hP hS => ?_)
          exact B196 L122 hL122 (mp_X12_reach_159 L122 K n159) ih159 σ10 x1 x2 x3 hF H locs ls hP hS (lv_sub hl [0, 1, 2, 3] rfl)
  have B122 : ∀ (n : Nat) (σ : sm_S) (x1 : Int32), mp_X12_reach_122 K n σ x1 → sm_J p l e (headSpec wp_X12_reach { frames := 1, cells := 0, slots := 0, locals := 22 }).room s m ([.ref (α.1 1)] : List Value).toArray below meth c (MQ below (va_Qi K (sm_B sm_wM D α) A) ([.ref (α.1 1)] : List Value).toArray s 0 0 A) D A 5 (sm_wM σ α) 122 [(0, .ref (α.1 1)), (1, .int x1)] [] := by
    intro n122
    induction n122 with
    | zero =>
      intro σ x1 hF
      exact hF.elim
    | succ n122 ih122 =>
      intro σ x1 hF H locs ls hP hS hl
      unfold mp_X12_reach_122 at hF
      refine lv_aload_n hx hb dX12_reach_122 rfl (lv_at hl 0 rfl) ?_
      refine va_get (D := D) (ci := 12) (v := .int (σ.1 25)) (C := RX12) (T := TX12) (N := 42) hx hb hts in_X12 hown hK hP 1 (sm_gX12 σ α) rfl 39 (by decide) k_2 (fun _ h9 => h9) rfl dX12_reach_123 ?_
      refine lv_if_le (tgt := 205) hx hb dX12_reach_126 (by decide) (fun h11 => ?_) (fun h11 => ?_)
      · replace hF := hF.1 h11
        refine lv_iload_n hx hb dX12_reach_205 rfl (lv_at hl 1 rfl) ?_
        exact W.iret (v := x1) hx hb hr (fun t ht hW => ⟨⟨x1, σ, rfl, hF, (by unfold sm_B; rw [ht]; exact hP)⟩, hS.F ht⟩) hS.2.2 dX12_reach_206
      · replace hF := hF.2 h11
        refine lv_aload_n hx hb dX12_reach_129 rfl (lv_at hl 0 rfl) ?_
        refine lv_dup hx hb dX12_reach_130 rfl ?_
        refine va_get (D := D) (ci := 12) (v := .int (σ.1 25)) (C := RX12) (T := TX12) (N := 42) hx hb hts in_X12 hown hK hP 1 (sm_gX12 σ α) rfl 39 (by decide) k_2 (fun _ h9 => h9) rfl dX12_reach_131 ?_
        refine lv_iconst (v := 1) hx hb dX12_reach_134 (by decide) ?_
        refine lv_isub hx hb dX12_reach_135 ?_
        refine va_put (D := D) (ci := 12) (v := .int ((σ.1 25) - 1)) (ty := .int) (C := RX12) (T := TX12) (N := 42) hx hb hts in_X12 tyX12 tyX12_ok nmX12 hown hK hP (hD.to (sm_wM_m _ _)) hS 1 (sm_gX12 σ α) rfl 39 (by decide) k_2 (fun _ h9 => h9) rfl (by decide +kernel) rfl rfl (Nat.le_of_ble_eq_true rfl) dX12_reach_136 (fun H locs hP _ hS => ?_)
        rw [sm_iM25] at hP
        obtain ⟨σ12, eσ12⟩ : ∃ x : sm_S, x = sm_i σ 25 ((σ.1 25) - 1) := ⟨_, rfl⟩
        replace hF := hF σ12 eσ12
        rw [← eσ12] at hP
        refine lv_aload_n hx hb dX12_reach_139 rfl (lv_at hl 0 rfl) ?_
        refine va_get (D := D) (ci := 12) (v := .ref (α.1 32)) (C := RX12) (T := TX12) (N := 42) hx hb hts in_X12 hown hK hP 1 (sm_gX12 σ12 α) rfl 17 (by decide) k_3 (fun _ h9 => h9) rfl dX12_reach_140 ?_
        refine lv_aload_n hx hb dX12_reach_143 rfl (lv_at hl 0 rfl) ?_
        refine va_get (D := D) (ci := 12) (v := .int (σ12.1 25)) (C := RX12) (T := TX12) (N := 42) hx hb hts in_X12 hown hK hP 1 (sm_gX12 σ12 α) rfl 39 (by decide) k_2 (fun _ h9 => h9) rfl dX12_reach_144 ?_
        obtain ⟨h13, hF⟩ := hF
        refine va_iald (n := (σ12.2.2.1 32)) (f := (σ12.2.2.2.1 32)) hx hb hK hP 32 30 (sm_aM32 σ12 α) (sm_yM32 α) h13 dX12_reach_147 ?_
        refine lv_topi (fun v14 ev14 => ?_)
        replace hF := hF v14 ev14
        refine lv_istore_n (lv' := [(2, .int v14), (0, .ref (α.1 1)), (1, .int x1)]) hx hb dX12_reach_148 rfl hl (by decide) rfl (fun ls hl => ?_)
        refine lv_iload_n hx hb dX12_reach_149 rfl (lv_at hl 2 rfl) ?_
        refine lv_aload_n hx hb dX12_reach_150 rfl (lv_at hl 1 rfl) ?_
        refine lv_iload_n hx hb dX12_reach_151 rfl (lv_at hl 0 rfl) ?_
        refine sm_vi (As := [.int v14]) (rest := [.int x1]) hP hK hD hE hS hA ⟨hx, hb, hml, hown, hts⟩ hl.1 (c_X12_cellsOf l D H.size t0 σ12 α v14 _ hF) (cwV 1 hts wg_X12_reach_X12_cellsOf_304 rfl rfl rfl (by decide +kernel) ⟨Nat.le_of_ble_eq_true rfl, Nat.le_of_ble_eq_true rfl⟩) (va_recv hK hP (ci := 12) (q0 := 1) rfl (sm_gX12 σ12 α)) rfl rfl (Nat.le_of_ble_eq_true rfl) dX12_reach_152 ⟨Nat.zero_le _, Nat.zero_le _⟩ (fun r16 σ15 H locs hF hP hS => ?_)
        refine lv_iadd hx hb dX12_reach_155 ?_
        refine lv_topi (fun v17 ev17 => ?_)
        replace hF := hF v17 ev17
        refine lv_istore_n (lv' := [(1, .int v17), (2, .int v14), (0, .ref (α.1 1))]) hx hb dX12_reach_156 rfl hl (by decide) rfl (fun ls hl => ?_)
        refine lv_iconst (v := 0) hx hb dX12_reach_157 (by decide) ?_
        refine lv_istore_n (lv' := [(3, .int 0), (1, .int v17), (2, .int v14), (0, .ref (α.1 1))]) hx hb dX12_reach_158 rfl hl (by decide) rfl (fun ls hl => ?_)
        obtain ⟨n159, hF⟩ := hF
        exact B159 (mp_X12_reach_122 K n122) ih122 n159 σ15 v17 v14 0 hF H locs ls hP hS (lv_sub hl [3, 1, 2, 0] rfl)
  have B95 : ∀ (L25 : sm_S → Int32 → Int32 → Prop) (hL25 : ∀ (σ : sm_S) (x1 : Int32) (x2 : Int32), L25 σ x1 x2 → sm_J p l e (headSpec wp_X12_reach { frames := 1, cells := 0, slots := 0, locals := 22 }).room s m ([.ref (α.1 1)] : List Value).toArray below meth c (MQ below (va_Qi K (sm_B sm_wM D α) A) ([.ref (α.1 1)] : List Value).toArray s 0 0 A) D A 5 (sm_wM σ α) 25 [(0, .ref (α.1 1)), (1, .int x1), (2, .int x2)] []) (L58 : sm_S → Int32 → Int32 → Int32 → Int32 → Prop) (hL58 : ∀ (σ : sm_S) (x1 : Int32) (x2 : Int32) (x3 : Int32) (x4 : Int32), L58 σ x1 x2 x3 x4 → sm_J p l e (headSpec wp_X12_reach { frames := 1, cells := 0, slots := 0, locals := 22 }).room s m ([.ref (α.1 1)] : List Value).toArray below meth c (MQ below (va_Qi K (sm_B sm_wM D α) A) ([.ref (α.1 1)] : List Value).toArray s 0 0 A) D A 5 (sm_wM σ α) 58 [(0, .ref (α.1 1)), (1, .int x1), (2, .int x2), (3, .int x3), (4, .int x4)] []) (σ : sm_S) (x1 : Int32) (x2 : Int32) (x3 : Int32) (x4 : Int32), mp_X12_reach_95 L25 L58 K σ x1 x2 x3 x4 → sm_J p l e (headSpec wp_X12_reach { frames := 1, cells := 0, slots := 0, locals := 22 }).room s m ([.ref (α.1 1)] : List Value).toArray below meth c (MQ below (va_Qi K (sm_B sm_wM D α) A) ([.ref (α.1 1)] : List Value).toArray s 0 0 A) D A 5 (sm_wM σ α) 95 [(0, .ref (α.1 1)), (1, .int x1), (2, .int x2), (3, .int x3), (4, .int x4)] [] := by
    intro L25 hL25 L58 hL58 σ x1 x2 x3 x4 hF H locs ls hP hS hl
    unfold mp_X12_reach_95 at hF
    obtain ⟨v18, ev18⟩ : ∃ y : Int32, y = x4 + 1 := ⟨_, rfl⟩
    replace hF := hF v18 ev18
    refine lv_iinc (v := v18) (lv' := [(4, .int v18), (0, .ref (α.1 1)), (1, .int x1), (2, .int x2), (3, .int x3)]) hx hb dX12_reach_95 hl (k := 4) rfl (by rw [ev18]; rfl) (by decide) rfl (fun ls hl => ?_)
    refine lv_goto (tgt := 58) hx hb dX12_reach_98 (by decide) ?_
    exact hL58 σ x1 x2 x3 v18 hF H locs ls hP hS (lv_sub hl [1, 2, 3, 4, 0] rfl)
  have B58 : ∀ (L25 : sm_S → Int32 → Int32 → Prop) (hL25 : ∀ (σ : sm_S) (x1 : Int32) (x2 : Int32), L25 σ x1 x2 → sm_J p l e (headSpec wp_X12_reach { frames := 1, cells := 0, slots := 0, locals := 22 }).room s m ([.ref (α.1 1)] : List Value).toArray below meth c (MQ below (va_Qi K (sm_B sm_wM D α) A) ([.ref (α.1 1)] : List Value).toArray s 0 0 A) D A 5 (sm_wM σ α) 25 [(0, .ref (α.1 1)), (1, .int x1), (2, .int x2)] []) (n : Nat) (σ : sm_S) (x1 : Int32) (x2 : Int32) (x3 : Int32) (x4 : Int32), mp_X12_reach_58 L25 K n σ x1 x2 x3 x4 → sm_J p l e (headSpec wp_X12_reach { frames := 1, cells := 0, slots := 0, locals := 22 }).room s m ([.ref (α.1 1)] : List Value).toArray below meth c (MQ below (va_Qi K (sm_B sm_wM D α) A) ([.ref (α.1 1)] : List Value).toArray s 0 0 A) D A 5 (sm_wM σ α) 58 [(0, .ref (α.1 1)), (1, .int x1), (2, .int x2), (3, .int x3), (4, .int x4)] [] := by
    intro L25 hL25 n58
    induction n58 with
    | zero =>
      intro σ x1 x2 x3 x4 hF
      exact hF.elim
    | succ n58 ih58 =>
      intro σ x1 x2 x3 x4 hF H locs ls hP hS hl
      unfold mp_X12_reach_58 at hF
      refine lv_iload hx hb dX12_reach_58 (lv_at hl 4 rfl) ?_
      refine lv_iload_n hx hb dX12_reach_60 rfl (lv_at hl 3 rfl) ?_
      refine lv_icmp_ge (tgt := 101) hx hb dX12_reach_61 (by decide) (fun h19 => ?_) (fun h19 => ?_)
      · replace hF := hF.1 h19
        obtain ⟨v20, ev20⟩ : ∃ y : Int32, y = x2 + 1 := ⟨_, rfl⟩
        replace hF := hF v20 ev20
        refine lv_iinc (v := v20) (lv' := [(2, .int v20), (0, .ref (α.1 1)), (1, .int x1), (3, .int x3), (4, .int x4)]) hx hb dX12_reach_101 hl (k := 2) rfl (by rw [ev20]; rfl) (by decide) rfl (fun ls hl => ?_)
        refine lv_goto (tgt := 25) hx hb dX12_reach_104 (by decide) ?_
        exact hL25 σ x1 v20 hF H locs ls hP hS (lv_sub hl [1, 2, 0] rfl)
      · replace hF := hF.2 h19
        refine lv_aload_n hx hb dX12_reach_64 rfl (lv_at hl 0 rfl) ?_
        refine va_get (D := D) (ci := 12) (v := .ref (α.1 37)) (C := RX12) (T := TX12) (N := 42) hx hb hts in_X12 hown hK hP 1 (sm_gX12 σ α) rfl 23 (by decide) k_4 (fun _ h9 => h9) rfl dX12_reach_65 ?_
        refine lv_bipush (v := 12) hx hb dX12_reach_68 (by decide) ?_
        refine lv_iload_n hx hb dX12_reach_70 rfl (lv_at hl 2 rfl) ?_
        refine lv_imul hx hb dX12_reach_71 ?_
        refine lv_iload hx hb dX12_reach_72 (lv_at hl 4 rfl) ?_
        refine lv_iadd hx hb dX12_reach_74 ?_
        obtain ⟨h21, hF⟩ := hF
        refine va_zald (n := (σ.2.2.1 37)) (f := (σ.2.2.2.1 37)) hx hb hK hP 37 35 (sm_aM37 σ α) (sm_yM37 α) h21 dX12_reach_75 ?_
        refine lv_if_eq (tgt := 95) hx hb dX12_reach_76 (by decide) (fun h22 => ?_) (fun h22 => ?_)
        · replace hF := hF.1 h22
          exact B95 L25 hL25 (mp_X12_reach_58 L25 K n58) ih58 σ x1 x2 x3 x4 hF H locs ls hP hS (lv_sub hl [0, 1, 2, 3, 4] rfl)
        · replace hF := hF.2 h22
          refine lv_aload_n hx hb dX12_reach_79 rfl (lv_at hl 0 rfl) ?_
          refine lv_aload_n hx hb dX12_reach_80 rfl (lv_at hl 0 rfl) ?_
          refine va_get (D := D) (ci := 12) (v := .ref (α.1 36)) (C := RX12) (T := TX12) (N := 42) hx hb hts in_X12 hown hK hP 1 (sm_gX12 σ α) rfl 22 (by decide) k_5 (fun _ h9 => h9) rfl dX12_reach_81 ?_
          refine lv_bipush (v := 12) hx hb dX12_reach_84 (by decide) ?_
          refine lv_iload_n hx hb dX12_reach_86 rfl (lv_at hl 2 rfl) ?_
          refine lv_imul hx hb dX12_reach_87 ?_
          refine lv_iload hx hb dX12_reach_88 (lv_at hl 4 rfl) ?_
          refine lv_iadd hx hb dX12_reach_90 ?_
          obtain ⟨h23, hF⟩ := hF
          refine va_iald (n := (σ.2.2.1 36)) (f := (σ.2.2.2.1 36)) hx hb hK hP 36 34 (sm_aM36 σ α) (sm_yM36 α) h23 dX12_reach_91 ?_
          refine sm_vv (As := [.int ((σ.2.2.2.1 36) ((12 * x2) + x4).toNatClampNeg)]) (rest := []) hP hK hD hE hS hA ⟨hx, hb, hml, hown, hts⟩ hl.1 (c_X12_mark l D H.size t0 σ α ((σ.2.2.2.1 36) ((12 * x2) + x4).toNatClampNeg) _ hF) (cwV 1 hts wg_X12_reach_X12_mark_298 rfl rfl rfl (by decide +kernel) ⟨Nat.le_of_ble_eq_true rfl, Nat.le_of_ble_eq_true rfl⟩) (va_recv hK hP (ci := 12) (q0 := 1) rfl (sm_gX12 σ α)) rfl rfl (Nat.le_of_ble_eq_true rfl) dX12_reach_92 ⟨Nat.zero_le _, Nat.zero_le _⟩ (fun σ24 H locs hF hP hS => ?_)
          exact B95 L25 hL25 (mp_X12_reach_58 L25 K n58) ih58 σ24 x1 x2 x3 x4 hF H locs ls hP hS (lv_sub hl [0, 1, 2, 3, 4] rfl)
  have B25 : ∀ (n : Nat) (σ : sm_S) (x1 : Int32) (x2 : Int32), mp_X12_reach_25 K n σ x1 x2 → sm_J p l e (headSpec wp_X12_reach { frames := 1, cells := 0, slots := 0, locals := 22 }).room s m ([.ref (α.1 1)] : List Value).toArray below meth c (MQ below (va_Qi K (sm_B sm_wM D α) A) ([.ref (α.1 1)] : List Value).toArray s 0 0 A) D A 5 (sm_wM σ α) 25 [(0, .ref (α.1 1)), (1, .int x1), (2, .int x2)] [] := by
    intro n25
    induction n25 with
    | zero =>
      intro σ x1 x2 hF
      exact hF.elim
    | succ n25 ih25 =>
      intro σ x1 x2 hF H locs ls hP hS hl
      unfold mp_X12_reach_25 at hF
      refine lv_iload_n hx hb dX12_reach_25 rfl (lv_at hl 2 rfl) ?_
      refine lv_aload_n hx hb dX12_reach_26 rfl (lv_at hl 0 rfl) ?_
      refine va_get (D := D) (ci := 12) (v := .int (σ.1 14)) (C := RX12) (T := TX12) (N := 42) hx hb hts in_X12 hown hK hP 1 (sm_gX12 σ α) rfl 18 (by decide) k_6 (fun _ h9 => h9) rfl dX12_reach_27 ?_
      refine lv_icmp_ge (tgt := 107) hx hb dX12_reach_30 (by decide) (fun h25 => ?_) (fun h25 => ?_)
      · replace hF := hF.1 h25
        refine lv_aload_n hx hb dX12_reach_107 rfl (lv_at hl 0 rfl) ?_
        refine va_get (D := D) (ci := 12) (v := .int (σ.1 15)) (C := RX12) (T := TX12) (N := 42) hx hb hts in_X12 hown hK hP 1 (sm_gX12 σ α) rfl 24 (by decide) k_7 (fun _ h9 => h9) rfl dX12_reach_108 ?_
        refine lv_if_eq (tgt := 122) hx hb dX12_reach_111 (by decide) (fun h26 => ?_) (fun h26 => ?_)
        · replace hF := hF.1 h26
          obtain ⟨n122, hF⟩ := hF
          exact B122 n122 σ x1 hF H locs ls hP hS (lv_sub hl [0, 1] rfl)
        · replace hF := hF.2 h26
          refine lv_aload_n hx hb dX12_reach_114 rfl (lv_at hl 0 rfl) ?_
          refine lv_aload_n hx hb dX12_reach_115 rfl (lv_at hl 0 rfl) ?_
          refine va_get (D := D) (ci := 12) (v := .int (σ.1 16)) (C := RX12) (T := TX12) (N := 42) hx hb hts in_X12 hown hK hP 1 (sm_gX12 σ α) rfl 25 (by decide) k_8 (fun _ h9 => h9) rfl dX12_reach_116 ?_
          refine sm_vv (As := [.int (σ.1 16)]) (rest := []) hP hK hD hE hS hA ⟨hx, hb, hml, hown, hts⟩ hl.1 (c_X12_mark l D H.size t0 σ α (σ.1 16) _ hF) (cwV 1 hts wg_X12_reach_X12_mark_298 rfl rfl rfl (by decide +kernel) ⟨Nat.le_of_ble_eq_true rfl, Nat.le_of_ble_eq_true rfl⟩) (va_recv hK hP (ci := 12) (q0 := 1) rfl (sm_gX12 σ α)) rfl rfl (Nat.le_of_ble_eq_true rfl) dX12_reach_119 ⟨Nat.zero_le _, Nat.zero_le _⟩ (fun σ27 H locs hF hP hS => ?_)
          obtain ⟨n122, hF⟩ := hF
          exact B122 n122 σ27 x1 hF H locs ls hP hS (lv_sub hl [0, 1] rfl)
      · replace hF := hF.2 h25
        refine lv_aload_n hx hb dX12_reach_33 rfl (lv_at hl 0 rfl) ?_
        refine va_get (D := D) (ci := 12) (v := .ref (α.1 0)) (C := RX12) (T := TX12) (N := 42) hx hb hts in_X12 hown hK hP 1 (sm_gX12 σ α) rfl 0 (by decide) k_9 (fun _ h9 => h9) rfl dX12_reach_34 ?_
        refine va_getN (D := D) (ci := 11) (v := .ref (α.1 15)) (C := RX11) (T := TX11) (N := 28) hx hb hts in_X11 hown hK hP 0 (sm_gX11 σ α) rfl 20 (by decide) (va_Nw.use rfl (hE.1 (.fieldLinkNest "SteadyMachineModel" 27 "SteadyMachineModel$Image" "locals" "[I" "SteadyMachineModel") (by decide +kernel))) (fun _ h9 => h9) rfl dX12_reach_37 ?_
        refine lv_aload_n hx hb dX12_reach_40 rfl (lv_at hl 0 rfl) ?_
        refine va_get (D := D) (ci := 12) (v := .ref (α.1 33)) (C := RX12) (T := TX12) (N := 42) hx hb hts in_X12 hown hK hP 1 (sm_gX12 σ α) rfl 19 (by decide) k_10 (fun _ h9 => h9) rfl dX12_reach_41 ?_
        refine lv_iload_n hx hb dX12_reach_44 rfl (lv_at hl 2 rfl) ?_
        obtain ⟨h28, hF⟩ := hF
        refine va_iald (n := (σ.2.2.1 33)) (f := (σ.2.2.2.1 33)) hx hb hK hP 33 31 (sm_aM33 σ α) (sm_yM33 α) h28 dX12_reach_45 ?_
        obtain ⟨h29, hF⟩ := hF
        refine va_iald (n := (σ.2.2.1 15)) (f := (σ.2.2.2.1 15)) hx hb hK hP 15 13 (sm_aM15 σ α) (sm_yM15 α) h29 dX12_reach_46 ?_
        refine lv_aload_n hx hb dX12_reach_47 rfl (lv_at hl 0 rfl) ?_
        refine va_get (D := D) (ci := 12) (v := .ref (α.1 35)) (C := RX12) (T := TX12) (N := 42) hx hb hts in_X12 hown hK hP 1 (sm_gX12 σ α) rfl 21 (by decide) k_11 (fun _ h9 => h9) rfl dX12_reach_48 ?_
        refine lv_iload_n hx hb dX12_reach_51 rfl (lv_at hl 2 rfl) ?_
        obtain ⟨h30, hF⟩ := hF
        refine va_iald (n := (σ.2.2.1 35)) (f := (σ.2.2.2.1 35)) hx hb hK hP 35 33 (sm_aM35 σ α) (sm_yM35 α) h30 dX12_reach_52 ?_
        refine lv_iadd hx hb dX12_reach_53 ?_
        refine lv_topi (fun v31 ev31 => ?_)
        replace hF := hF v31 ev31
        refine lv_istore_n (lv' := [(3, .int v31), (0, .ref (α.1 1)), (1, .int x1), (2, .int x2)]) hx hb dX12_reach_54 rfl hl (by decide) rfl (fun ls hl => ?_)
        refine lv_iconst (v := 0) hx hb dX12_reach_55 (by decide) ?_
        refine lv_istore (lv' := [(4, .int 0), (3, .int v31), (0, .ref (α.1 1)), (1, .int x1), (2, .int x2)]) hx hb dX12_reach_56 hl (by decide) rfl (fun ls hl => ?_)
        obtain ⟨n58, hF⟩ := hF
        exact B58 (mp_X12_reach_25 K n25) ih25 n58 σ x1 x2 v31 0 hF H locs ls hP hS (lv_sub hl [2, 3, 4, 1, 0] rfl)
  unfold mp_X12_reach at hF
  revert hP hS
  generalize hLo : ([] : List Loc) = locs
  suffices h9 : ∀ (H : Heap) (locs : List Loc), va_P D vwCl (sm_wM σ α) H → va_S A s.heap H locs → W p l e (headSpec wp_X12_reach { frames := 1, cells := 0, slots := 0, locals := 22 }).room s m ([.ref (α.1 1)] : List Value).toArray below meth c H locs 0 0 (MQ below (va_Qi K (sm_B sm_wM D α) A) ([.ref (α.1 1)] : List Value).toArray s 0 0 A) (F0 m 0 ls []) from fun hP hS => h9 s.heap locs hP hS
  intro H locs hP hS
  refine lv_aload_n hx hb dX12_reach_0 rfl (lv_at hl 0 rfl) ?_
  refine lv_dup hx hb dX12_reach_1 rfl ?_
  refine va_get (D := D) (ci := 12) (v := .int (σ.1 12)) (C := RX12) (T := TX12) (N := 42) hx hb hts in_X12 hown hK hP 1 (sm_gX12 σ α) rfl 14 (by decide) k_12 (fun _ h9 => h9) rfl dX12_reach_2 ?_
  refine lv_iconst (v := 1) hx hb dX12_reach_5 (by decide) ?_
  refine lv_iadd hx hb dX12_reach_6 ?_
  refine va_put (D := D) (ci := 12) (v := .int ((σ.1 12) + 1)) (ty := .int) (C := RX12) (T := TX12) (N := 42) hx hb hts in_X12 tyX12 tyX12_ok nmX12 hown hK hP (hD.to (sm_wM_m _ _)) hS 1 (sm_gX12 σ α) rfl 14 (by decide) k_12 (fun _ h9 => h9) rfl (by decide +kernel) rfl rfl (Nat.le_of_ble_eq_true rfl) dX12_reach_7 (fun H locs hP _ hS => ?_)
  rw [sm_iM12] at hP
  obtain ⟨σ32, eσ32⟩ : ∃ x : sm_S, x = sm_i σ 12 ((σ.1 12) + 1) := ⟨_, rfl⟩
  replace hF := hF σ32 eσ32
  rw [← eσ32] at hP
  refine lv_aload_n hx hb dX12_reach_10 rfl (lv_at hl 0 rfl) ?_
  refine lv_iconst (v := 0) hx hb dX12_reach_11 (by decide) ?_
  refine va_put (D := D) (ci := 12) (v := .int 0) (ty := .int) (C := RX12) (T := TX12) (N := 42) hx hb hts in_X12 tyX12 tyX12_ok nmX12 hown hK hP (hD.to (sm_wM_m _ _)) hS 1 (sm_gX12 σ32 α) rfl 39 (by decide) k_2 (fun _ h9 => h9) rfl (by decide +kernel) rfl rfl (Nat.le_of_ble_eq_true rfl) dX12_reach_12 (fun H locs hP _ hS => ?_)
  rw [sm_iM25] at hP
  obtain ⟨σ33, eσ33⟩ : ∃ x : sm_S, x = sm_i σ32 25 0 := ⟨_, rfl⟩
  replace hF := hF σ33 eσ33
  rw [← eσ33] at hP
  refine lv_bipush (v := 16) hx hb dX12_reach_15 (by decide) ?_
  refine lv_aload_n hx hb dX12_reach_17 rfl (lv_at hl 0 rfl) ?_
  refine va_get (D := D) (ci := 12) (v := .int (σ33.1 14)) (C := RX12) (T := TX12) (N := 42) hx hb hts in_X12 hown hK hP 1 (sm_gX12 σ33 α) rfl 18 (by decide) k_6 (fun _ h9 => h9) rfl dX12_reach_18 ?_
  refine lv_imul hx hb dX12_reach_21 ?_
  refine lv_topi (fun v34 ev34 => ?_)
  replace hF := hF v34 ev34
  refine lv_istore_n (lv' := [(1, .int v34), (0, .ref (α.1 1))]) hx hb dX12_reach_22 rfl hl (by decide) rfl (fun ls hl => ?_)
  refine lv_iconst (v := 0) hx hb dX12_reach_23 (by decide) ?_
  refine lv_istore_n (lv' := [(2, .int 0), (1, .int v34), (0, .ref (α.1 1))]) hx hb dX12_reach_24 rfl hl (by decide) rfl (fun ls hl => ?_)
  obtain ⟨n25, hF⟩ := hF
  exact B25 n25 σ33 v34 0 hF H locs ls hP hS (lv_sub hl [2, 1, 0] rfl)
theorem dX12_make_0 : decode cX12_make 0 = .ok (.aload_n 0, 1) := by decide +kernel
theorem dX12_make_1 : decode cX12_make 1 = .ok (.invokevirtual 284, 3) := by decide +kernel
theorem dX12_make_4 : decode cX12_make 4 = .ok (.ifCond .eq 61, 3) := by decide +kernel
theorem dX12_make_7 : decode cX12_make 7 = .ok (.aload_n 0, 1) := by decide +kernel
theorem dX12_make_8 : decode cX12_make 8 = .ok (.getfield 237, 3) := by decide +kernel
theorem dX12_make_11 : decode cX12_make 11 = .ok (.aload_n 0, 1) := by decide +kernel
theorem dX12_make_12 : decode cX12_make 12 = .ok (.getfield 234, 3) := by decide +kernel
theorem dX12_make_15 : decode cX12_make 15 = .ok (.if_icmp .le 5, 3) := by decide +kernel
theorem dX12_make_18 : decode cX12_make 18 = .ok (.iconst 0, 1) := by decide +kernel
theorem dX12_make_19 : decode cX12_make 19 = .ok (.ireturn, 1) := by decide +kernel
theorem dX12_make_20 : decode cX12_make 20 = .ok (.aload_n 0, 1) := by decide +kernel
theorem dX12_make_21 : decode cX12_make 21 = .ok (.getfield 237, 3) := by decide +kernel
theorem dX12_make_24 : decode cX12_make 24 = .ok (.i2l, 1) := by decide +kernel
theorem dX12_make_25 : decode cX12_make 25 = .ok (.aload_n 0, 1) := by decide +kernel
theorem dX12_make_26 : decode cX12_make 26 = .ok (.getfield 240, 3) := by decide +kernel
theorem dX12_make_29 : decode cX12_make 29 = .ok (.ladd, 1) := by decide +kernel
theorem dX12_make_30 : decode cX12_make 30 = .ok (.iload_n 1, 1) := by decide +kernel
theorem dX12_make_31 : decode cX12_make 31 = .ok (.i2l, 1) := by decide +kernel
theorem dX12_make_32 : decode cX12_make 32 = .ok (.ladd, 1) := by decide +kernel
theorem dX12_make_33 : decode cX12_make 33 = .ok (.aload_n 0, 1) := by decide +kernel
theorem dX12_make_34 : decode cX12_make 34 = .ok (.getfield 234, 3) := by decide +kernel
theorem dX12_make_37 : decode cX12_make 37 = .ok (.i2l, 1) := by decide +kernel
theorem dX12_make_38 : decode cX12_make 38 = .ok (.lcmp, 1) := by decide +kernel
theorem dX12_make_39 : decode cX12_make 39 = .ok (.ifCond .le 26, 3) := by decide +kernel
theorem dX12_make_42 : decode cX12_make 42 = .ok (.aload_n 0, 1) := by decide +kernel
theorem dX12_make_43 : decode cX12_make 43 = .ok (.aload_n 0, 1) := by decide +kernel
theorem dX12_make_44 : decode cX12_make 44 = .ok (.invokevirtual 288, 3) := by decide +kernel
theorem dX12_make_47 : decode cX12_make 47 = .ok (.putfield 237, 3) := by decide +kernel
theorem dX12_make_50 : decode cX12_make 50 = .ok (.aload_n 0, 1) := by decide +kernel
theorem dX12_make_51 : decode cX12_make 51 = .ok (.lconst 0, 1) := by decide +kernel
theorem dX12_make_52 : decode cX12_make 52 = .ok (.putfield 240, 3) := by decide +kernel
theorem dX12_make_55 : decode cX12_make 55 = .ok (.aload_n 0, 1) := by decide +kernel
theorem dX12_make_56 : decode cX12_make 56 = .ok (.dup, 1) := by decide +kernel
theorem dX12_make_57 : decode cX12_make 57 = .ok (.getfield 244, 3) := by decide +kernel
theorem dX12_make_60 : decode cX12_make 60 = .ok (.iconst 1, 1) := by decide +kernel
theorem dX12_make_61 : decode cX12_make 61 = .ok (.iadd, 1) := by decide +kernel
theorem dX12_make_62 : decode cX12_make 62 = .ok (.putfield 244, 3) := by decide +kernel
theorem dX12_make_65 : decode cX12_make 65 = .ok (.aload_n 0, 1) := by decide +kernel
theorem dX12_make_66 : decode cX12_make 66 = .ok (.dup, 1) := by decide +kernel
theorem dX12_make_67 : decode cX12_make 67 = .ok (.getfield 240, 3) := by decide +kernel
theorem dX12_make_70 : decode cX12_make 70 = .ok (.iload_n 1, 1) := by decide +kernel
theorem dX12_make_71 : decode cX12_make 71 = .ok (.i2l, 1) := by decide +kernel
theorem dX12_make_72 : decode cX12_make 72 = .ok (.ladd, 1) := by decide +kernel
theorem dX12_make_73 : decode cX12_make 73 = .ok (.putfield 240, 3) := by decide +kernel
theorem dX12_make_76 : decode cX12_make 76 = .ok (.iconst 1, 1) := by decide +kernel
theorem dX12_make_77 : decode cX12_make 77 = .ok (.ireturn, 1) := by decide +kernel
def wp_X12_make : List Cond := .code yX12_make cX12_make 2 (some .boolean) :: ((([.fieldLink RX12 240 "SteadyMachineModel" "made" "J", .fieldLink RX12 237 "SteadyMachineModel" "reached" "I", .fieldLink RX12 234 "SteadyMachineModel" "limit" "I", .fieldLink RX12 244 "SteadyMachineModel" "flips" "I"] ++ (wsV RX12 284 RX12 yX12_isDone wp_X12_isDone)) ++ (wsV RX12 288 RX12 yX12_reach wp_X12_reach)) ++ wsX120)
theorem wq_X12_make : wp_X12_make.all goodWord = true := wa_c rfl (wa_a (wa_a (wa_a (by decide +kernel) (wa_V wq_X12_isDone)) (wa_V wq_X12_reach)) uq_X12)
theorem wt_X12_make : GoodIn lw_tbl wp_X12_make := wm_c (List.mem_of_getElem? (i := 1633) (by decide +kernel)) rfl (wm_a (wm_a (wm_a (goodIn_r _ [1527, 1526, 1525, 1528] (by decide +kernel) (by decide +kernel)) (wm_a (goodIn_r _ [1634, 1636, 103, 147] (by decide +kernel) (by decide +kernel)) wt_X12_isDone)) (wm_a (goodIn_r _ [1638, 1640, 104, 147] (by decide +kernel) (by decide +kernel)) wt_X12_reach)) ut_X12)
theorem wg_X12_make_X12_isDone_284 : GoodIn wp_X12_make (wsV RX12 284 RX12 yX12_isDone wp_X12_isDone) := goodIn_sub (fun w h => List.mem_cons_of_mem _ (List.mem_append_left _ (List.mem_append_left _ (List.mem_append_right _ h)))) (wa_V wq_X12_isDone)
theorem wg_X12_make_X12_reach_288 : GoodIn wp_X12_make (wsV RX12 288 RX12 yX12_reach wp_X12_reach) := goodIn_sub (fun w h => List.mem_cons_of_mem _ (List.mem_append_left _ (List.mem_append_right _ h))) (wa_V wq_X12_reach)
theorem wi_X12_make_X12 : ∀ w ∈ wsX120, w ∈ wp_X12_make := fun w h => List.mem_cons_of_mem _ (List.mem_append_right _ h)
set_option maxHeartbeats 4000000 in
set_option maxRecDepth 100000 in
theorem c_X12_make (l : Launch) (D : va_G) (sz t0 : Nat) (σ : sm_S) (α : sm_A) (p1 : Int32) (K : Int32 → sm_S → Prop) (hF : mp_X12_make σ p1 K) : Met l yX12_make wp_X12_make { frames := 2, cells := 0, slots := 0, locals := 46 } (sm_P sm_wM sm_tM 40 D sz t0 σ α [.ref (α.1 1), .int p1]) (va_Qi K (sm_B sm_wM D α) (sm_a α 40 sz)) 0 0 (sm_a α 40 sz) := by
  refine Met.ofW (cc := cX12_make) (maxL := 2) (ret := (some .boolean)) (by decide) rfl ?_
  intro p e s m args below meth c s₁ B hml hv
  obtain ⟨rfl, hsz, hP, hK, hD0, hE⟩ := hv
  have hx := B.exec
  have hb := B.bytes
  have hr := B.returns
  have hts := atoms_spec (ws := wp_X12_make) B.pre
  have hown : s.vm.findClass RX12 = some m.cls := findClass_of_methodNamed B.named
  have hlocks := B.notSynchronized
  subst hsz
  have hD : sm_D (sm_a α 40 s.heap.size) α 40 := hD0.own
  have hA : ∀ q : Nat, s.heap.size ≤ q → sm_a α 40 s.heap.size q := fun q h => Or.inr h
  generalize hAe : sm_a α 40 s.heap.size = A at hD hA hE ⊢
  have hS : va_S A s.heap s.heap [] := va_S.rf
  have in_X12 : ∀ w ∈ wsX120, w ∈ wp_X12_make := wi_X12_make_X12
  have k_0 := hts (.fieldLink RX12 240 "SteadyMachineModel" "made" "J") (by decide +kernel)
  have k_1 := hts (.fieldLink RX12 237 "SteadyMachineModel" "reached" "I") (by decide +kernel)
  have k_2 := hts (.fieldLink RX12 234 "SteadyMachineModel" "limit" "I") (by decide +kernel)
  have k_3 := hts (.fieldLink RX12 244 "SteadyMachineModel" "flips" "I") (by decide +kernel)
  have hl := lv_entry ([.ref (α.1 1), .int p1]) (n := 2) (Nat.le_of_ble_eq_true rfl)
  rw [lg_entry_eq]
  generalize (lg_sl ([.ref (α.1 1), .int p1]) ++ List.replicate (2 - (lg_sl ([.ref (α.1 1), .int p1])).length) Slot.unset).toArray = ls at hl ⊢
  have hl : lv_has ls 2 [(0, .ref (α.1 1)), (1, .int p1)] := hl
  have B65 : ∀ (σ : sm_S) (x1 : Int32), mp_X12_make_65 K σ x1 → sm_J p l e (headSpec wp_X12_make { frames := 2, cells := 0, slots := 0, locals := 46 }).room s m ([.ref (α.1 1), .int p1] : List Value).toArray below meth c (MQ below (va_Qi K (sm_B sm_wM D α) A) ([.ref (α.1 1), .int p1] : List Value).toArray s 0 0 A) D A 2 (sm_wM σ α) 65 [(0, .ref (α.1 1)), (1, .int x1)] [] := by
    intro σ x1 hF H locs ls hP hS hl
    unfold mp_X12_make_65 at hF
    refine lv_aload_n hx hb dX12_make_65 rfl (lv_at hl 0 rfl) ?_
    refine lv_dup hx hb dX12_make_66 rfl ?_
    refine va_get (D := D) (ci := 12) (v := .long (σ.2.1 2)) (C := RX12) (T := TX12) (N := 42) hx hb hts in_X12 hown hK hP 1 (sm_gX12 σ α) rfl 37 (by decide) k_0 (fun _ h9 => h9) rfl dX12_make_67 ?_
    refine lv_iload_n hx hb dX12_make_70 rfl (lv_at hl 1 rfl) ?_
    refine lv_i2l hx hb dX12_make_71 rfl ?_
    refine lv_ladd hx hb dX12_make_72 ?_
    refine va_put (D := D) (ci := 12) (v := .long ((σ.2.1 2) + x1.toInt64)) (ty := .long) (C := RX12) (T := TX12) (N := 42) hx hb hts in_X12 tyX12 tyX12_ok nmX12 hown hK hP (hD.to (sm_wM_m _ _)) hS 1 (sm_gX12 σ α) rfl 37 (by decide) k_0 (fun _ h9 => h9) rfl (by decide +kernel) rfl rfl (Nat.le_of_ble_eq_true rfl) dX12_make_73 (fun H locs hP _ hS => ?_)
    rw [sm_jM2] at hP
    obtain ⟨σ1, eσ1⟩ : ∃ x : sm_S, x = sm_j σ 2 ((σ.2.1 2) + x1.toInt64) := ⟨_, rfl⟩
    replace hF := hF σ1 eσ1
    rw [← eσ1] at hP
    refine lv_iconst (v := 1) hx hb dX12_make_76 (by decide) ?_
    exact W.zret (v := 1) hx hb hr sm_z1.1 (fun t ht hW => ⟨⟨1, σ1, rfl, hF, (by unfold sm_B; rw [ht]; exact hP)⟩, hS.F ht⟩) hS.2.2 dX12_make_77
  unfold mp_X12_make at hF
  revert hP hS
  generalize hLo : ([] : List Loc) = locs
  suffices h9 : ∀ (H : Heap) (locs : List Loc), va_P D vwCl (sm_wM σ α) H → va_S A s.heap H locs → W p l e (headSpec wp_X12_make { frames := 2, cells := 0, slots := 0, locals := 46 }).room s m ([.ref (α.1 1), .int p1] : List Value).toArray below meth c H locs 0 0 (MQ below (va_Qi K (sm_B sm_wM D α) A) ([.ref (α.1 1), .int p1] : List Value).toArray s 0 0 A) (F0 m 0 ls []) from fun hP hS => h9 s.heap locs hP hS
  intro H locs hP hS
  refine lv_aload_n hx hb dX12_make_0 rfl (lv_at hl 0 rfl) ?_
  refine sm_vi (As := []) (rest := []) hP hK hD hE hS hA ⟨hx, hb, hml, hown, hts⟩ hl.1 (c_X12_isDone l D H.size t0 σ α _ hF) (cwV 0 hts wg_X12_make_X12_isDone_284 rfl rfl rfl (by decide +kernel) ⟨Nat.le_of_ble_eq_true rfl, Nat.le_of_ble_eq_true rfl⟩) (va_recv hK hP (ci := 12) (q0 := 1) rfl (sm_gX12 σ α)) rfl rfl (Nat.le_of_ble_eq_true rfl) dX12_make_1 ⟨Nat.zero_le _, Nat.zero_le _⟩ (fun r3 σ2 H locs hF hP hS => ?_)
  refine lv_if_eq (tgt := 65) hx hb dX12_make_4 (by decide) (fun h4 => ?_) (fun h4 => ?_)
  · replace hF := hF.1 h4
    exact B65 σ2 p1 hF H locs ls hP hS (lv_sub hl [0, 1] rfl)
  · replace hF := hF.2 h4
    refine lv_aload_n hx hb dX12_make_7 rfl (lv_at hl 0 rfl) ?_
    refine va_get (D := D) (ci := 12) (v := .int (σ2.1 23)) (C := RX12) (T := TX12) (N := 42) hx hb hts in_X12 hown hK hP 1 (sm_gX12 σ2 α) rfl 36 (by decide) k_1 (fun _ h9 => h9) rfl dX12_make_8 ?_
    refine lv_aload_n hx hb dX12_make_11 rfl (lv_at hl 0 rfl) ?_
    refine va_get (D := D) (ci := 12) (v := .int (σ2.1 22)) (C := RX12) (T := TX12) (N := 42) hx hb hts in_X12 hown hK hP 1 (sm_gX12 σ2 α) rfl 35 (by decide) k_2 (fun _ h9 => h9) rfl dX12_make_12 ?_
    refine lv_icmp_le (tgt := 20) hx hb dX12_make_15 (by decide) (fun h5 => ?_) (fun h5 => ?_)
    · replace hF := hF.1 h5
      refine lv_aload_n hx hb dX12_make_20 rfl (lv_at hl 0 rfl) ?_
      refine va_get (D := D) (ci := 12) (v := .int (σ2.1 23)) (C := RX12) (T := TX12) (N := 42) hx hb hts in_X12 hown hK hP 1 (sm_gX12 σ2 α) rfl 36 (by decide) k_1 (fun _ h9 => h9) rfl dX12_make_21 ?_
      refine lv_i2l hx hb dX12_make_24 rfl ?_
      refine lv_aload_n hx hb dX12_make_25 rfl (lv_at hl 0 rfl) ?_
      refine va_get (D := D) (ci := 12) (v := .long (σ2.2.1 2)) (C := RX12) (T := TX12) (N := 42) hx hb hts in_X12 hown hK hP 1 (sm_gX12 σ2 α) rfl 37 (by decide) k_0 (fun _ h9 => h9) rfl dX12_make_26 ?_
      refine lv_ladd hx hb dX12_make_29 ?_
      refine lv_iload_n hx hb dX12_make_30 rfl (lv_at hl 1 rfl) ?_
      refine lv_i2l hx hb dX12_make_31 rfl ?_
      refine lv_ladd hx hb dX12_make_32 ?_
      refine lv_aload_n hx hb dX12_make_33 rfl (lv_at hl 0 rfl) ?_
      refine va_get (D := D) (ci := 12) (v := .int (σ2.1 22)) (C := RX12) (T := TX12) (N := 42) hx hb hts in_X12 hown hK hP 1 (sm_gX12 σ2 α) rfl 35 (by decide) k_2 (fun _ h9 => h9) rfl dX12_make_34 ?_
      refine lv_i2l hx hb dX12_make_37 rfl ?_
      refine W.lcmp hx hb dX12_make_38 ?_
      refine lv_if_le (tgt := 65) hx hb dX12_make_39 (by decide) (fun h6 => ?_) (fun h6 => ?_)
      · replace hF := hF.1 h6
        exact B65 σ2 p1 hF H locs ls hP hS (lv_sub hl [0, 1] rfl)
      · replace hF := hF.2 h6
        refine lv_aload_n hx hb dX12_make_42 rfl (lv_at hl 0 rfl) ?_
        refine lv_aload_n hx hb dX12_make_43 rfl (lv_at hl 0 rfl) ?_
        refine sm_vi (As := []) (rest := [.ref (α.1 1)]) hP hK hD hE hS hA ⟨hx, hb, hml, hown, hts⟩ hl.1 (c_X12_reach l D H.size t0 σ2 α _ hF) (cwV 0 hts wg_X12_make_X12_reach_288 rfl rfl rfl (by decide +kernel) ⟨Nat.le_of_ble_eq_true rfl, Nat.le_of_ble_eq_true rfl⟩) (va_recv hK hP (ci := 12) (q0 := 1) rfl (sm_gX12 σ2 α)) rfl rfl (Nat.le_of_ble_eq_true rfl) dX12_make_44 ⟨Nat.zero_le _, Nat.zero_le _⟩ (fun r8 σ7 H locs hF hP hS => ?_)
        refine va_put (D := D) (ci := 12) (v := .int r8) (ty := .int) (C := RX12) (T := TX12) (N := 42) hx hb hts in_X12 tyX12 tyX12_ok nmX12 hown hK hP (hD.to (sm_wM_m _ _)) hS 1 (sm_gX12 σ7 α) rfl 36 (by decide) k_1 (fun _ h9 => h9) rfl (by decide +kernel) rfl rfl (Nat.le_of_ble_eq_true rfl) dX12_make_47 (fun H locs hP _ hS => ?_)
        rw [sm_iM23] at hP
        obtain ⟨σ9, eσ9⟩ : ∃ x : sm_S, x = sm_i σ7 23 r8 := ⟨_, rfl⟩
        replace hF := hF σ9 eσ9
        rw [← eσ9] at hP
        refine lv_aload_n hx hb dX12_make_50 rfl (lv_at hl 0 rfl) ?_
        refine lv_lconst (v := 0) hx hb dX12_make_51 (by decide) ?_
        refine va_put (D := D) (ci := 12) (v := .long 0) (ty := .long) (C := RX12) (T := TX12) (N := 42) hx hb hts in_X12 tyX12 tyX12_ok nmX12 hown hK hP (hD.to (sm_wM_m _ _)) hS 1 (sm_gX12 σ9 α) rfl 37 (by decide) k_0 (fun _ h9 => h9) rfl (by decide +kernel) rfl rfl (Nat.le_of_ble_eq_true rfl) dX12_make_52 (fun H locs hP _ hS => ?_)
        rw [sm_jM2] at hP
        obtain ⟨σ10, eσ10⟩ : ∃ x : sm_S, x = sm_j σ9 2 0 := ⟨_, rfl⟩
        replace hF := hF σ10 eσ10
        rw [← eσ10] at hP
        refine lv_aload_n hx hb dX12_make_55 rfl (lv_at hl 0 rfl) ?_
        refine lv_dup hx hb dX12_make_56 rfl ?_
        refine va_get (D := D) (ci := 12) (v := .int (σ10.1 24)) (C := RX12) (T := TX12) (N := 42) hx hb hts in_X12 hown hK hP 1 (sm_gX12 σ10 α) rfl 38 (by decide) k_3 (fun _ h9 => h9) rfl dX12_make_57 ?_
        refine lv_iconst (v := 1) hx hb dX12_make_60 (by decide) ?_
        refine lv_iadd hx hb dX12_make_61 ?_
        refine va_put (D := D) (ci := 12) (v := .int ((σ10.1 24) + 1)) (ty := .int) (C := RX12) (T := TX12) (N := 42) hx hb hts in_X12 tyX12 tyX12_ok nmX12 hown hK hP (hD.to (sm_wM_m _ _)) hS 1 (sm_gX12 σ10 α) rfl 38 (by decide) k_3 (fun _ h9 => h9) rfl (by decide +kernel) rfl rfl (Nat.le_of_ble_eq_true rfl) dX12_make_62 (fun H locs hP _ hS => ?_)
        rw [sm_iM24] at hP
        obtain ⟨σ11, eσ11⟩ : ∃ x : sm_S, x = sm_i σ10 24 ((σ10.1 24) + 1) := ⟨_, rfl⟩
        replace hF := hF σ11 eσ11
        rw [← eσ11] at hP
        exact B65 σ11 p1 hF H locs ls hP hS (lv_sub hl [0, 1] rfl)
    · replace hF := hF.2 h5
      refine lv_iconst (v := 0) hx hb dX12_make_18 (by decide) ?_
      exact W.zret (v := 0) hx hb hr sm_z0.1 (fun t ht hW => ⟨⟨0, σ2, rfl, hF, (by unfold sm_B; rw [ht]; exact hP)⟩, hS.F ht⟩) hS.2.2 dX12_make_19
theorem dX12_start_0 : decode cX12_start 0 = .ok (.aload_n 0, 1) := by decide +kernel
theorem dX12_start_1 : decode cX12_start 1 = .ok (.getfield 10, 3) := by decide +kernel
theorem dX12_start_4 : decode cX12_start 4 = .ok (.getfield 164, 3) := by decide +kernel
theorem dX12_start_7 : decode cX12_start 7 = .ok (.ifCond .ne 5, 3) := by decide +kernel
theorem dX12_start_10 : decode cX12_start 10 = .ok (.iconst 0, 1) := by decide +kernel
theorem dX12_start_11 : decode cX12_start 11 = .ok (.ireturn, 1) := by decide +kernel
theorem dX12_start_12 : decode cX12_start 12 = .ok (.iload_n 1, 1) := by decide +kernel
theorem dX12_start_13 : decode cX12_start 13 = .ok (.sipush 1024, 3) := by decide +kernel
theorem dX12_start_16 : decode cX12_start 16 = .ok (.if_icmp .ge 9, 3) := by decide +kernel
theorem dX12_start_19 : decode cX12_start 19 = .ok (.sipush 1024, 3) := by decide +kernel
theorem dX12_start_22 : decode cX12_start 22 = .ok (.goto 15, 3) := by decide +kernel
theorem dX12_start_25 : decode cX12_start 25 = .ok (.iload_n 1, 1) := by decide +kernel
theorem dX12_start_26 : decode cX12_start 26 = .ok (.ldc 230, 2) := by decide +kernel
theorem dX12_start_28 : decode cX12_start 28 = .ok (.if_icmp .le 8, 3) := by decide +kernel
theorem dX12_start_31 : decode cX12_start 31 = .ok (.ldc 230, 2) := by decide +kernel
theorem dX12_start_33 : decode cX12_start 33 = .ok (.goto 4, 3) := by decide +kernel
theorem dX12_start_36 : decode cX12_start 36 = .ok (.iload_n 1, 1) := by decide +kernel
theorem dX12_start_37 : decode cX12_start 37 = .ok (.istore_n 3, 1) := by decide +kernel
theorem dX12_start_38 : decode cX12_start 38 = .ok (.aload_n 0, 1) := by decide +kernel
theorem dX12_start_39 : decode cX12_start 39 = .ok (.iload_n 2, 1) := by decide +kernel
theorem dX12_start_40 : decode cX12_start 40 = .ok (.iconst 1, 1) := by decide +kernel
theorem dX12_start_41 : decode cX12_start 41 = .ok (.if_icmp .ge 7, 3) := by decide +kernel
theorem dX12_start_44 : decode cX12_start 44 = .ok (.iconst 1, 1) := by decide +kernel
theorem dX12_start_45 : decode cX12_start 45 = .ok (.goto 15, 3) := by decide +kernel
theorem dX12_start_48 : decode cX12_start 48 = .ok (.iload_n 2, 1) := by decide +kernel
theorem dX12_start_49 : decode cX12_start 49 = .ok (.bipush 64, 2) := by decide +kernel
theorem dX12_start_51 : decode cX12_start 51 = .ok (.if_icmp .le 8, 3) := by decide +kernel
theorem dX12_start_54 : decode cX12_start 54 = .ok (.bipush 64, 2) := by decide +kernel
theorem dX12_start_56 : decode cX12_start 56 = .ok (.goto 4, 3) := by decide +kernel
theorem dX12_start_59 : decode cX12_start 59 = .ok (.iload_n 2, 1) := by decide +kernel
theorem dX12_start_60 : decode cX12_start 60 = .ok (.putfield 231, 3) := by decide +kernel
theorem dX12_start_63 : decode cX12_start 63 = .ok (.aload_n 0, 1) := by decide +kernel
theorem dX12_start_64 : decode cX12_start 64 = .ok (.iload_n 3, 1) := by decide +kernel
theorem dX12_start_65 : decode cX12_start 65 = .ok (.aload_n 0, 1) := by decide +kernel
theorem dX12_start_66 : decode cX12_start 66 = .ok (.getfield 231, 3) := by decide +kernel
theorem dX12_start_69 : decode cX12_start 69 = .ok (.imul, 1) := by decide +kernel
theorem dX12_start_70 : decode cX12_start 70 = .ok (.aload_n 0, 1) := by decide +kernel
theorem dX12_start_71 : decode cX12_start 71 = .ok (.getfield 231, 3) := by decide +kernel
theorem dX12_start_74 : decode cX12_start 74 = .ok (.iconst 1, 1) := by decide +kernel
theorem dX12_start_75 : decode cX12_start 75 = .ok (.iadd, 1) := by decide +kernel
theorem dX12_start_76 : decode cX12_start 76 = .ok (.idiv, 1) := by decide +kernel
theorem dX12_start_77 : decode cX12_start 77 = .ok (.putfield 234, 3) := by decide +kernel
theorem dX12_start_80 : decode cX12_start 80 = .ok (.aload_n 0, 1) := by decide +kernel
theorem dX12_start_81 : decode cX12_start 81 = .ok (.iconst 0, 1) := by decide +kernel
theorem dX12_start_82 : decode cX12_start 82 = .ok (.putfield 237, 3) := by decide +kernel
theorem dX12_start_85 : decode cX12_start 85 = .ok (.aload_n 0, 1) := by decide +kernel
theorem dX12_start_86 : decode cX12_start 86 = .ok (.lconst 0, 1) := by decide +kernel
theorem dX12_start_87 : decode cX12_start 87 = .ok (.putfield 240, 3) := by decide +kernel
theorem dX12_start_90 : decode cX12_start 90 = .ok (.aload_n 0, 1) := by decide +kernel
theorem dX12_start_91 : decode cX12_start 91 = .ok (.iconst 0, 1) := by decide +kernel
theorem dX12_start_92 : decode cX12_start 92 = .ok (.putfield 244, 3) := by decide +kernel
theorem dX12_start_95 : decode cX12_start 95 = .ok (.aload_n 0, 1) := by decide +kernel
theorem dX12_start_96 : decode cX12_start 96 = .ok (.iconst 0, 1) := by decide +kernel
theorem dX12_start_97 : decode cX12_start 97 = .ok (.putfield 247, 3) := by decide +kernel
theorem dX12_start_100 : decode cX12_start 100 = .ok (.aload_n 0, 1) := by decide +kernel
theorem dX12_start_101 : decode cX12_start 101 = .ok (.iconst 0, 1) := by decide +kernel
theorem dX12_start_102 : decode cX12_start 102 = .ok (.putfield 250, 3) := by decide +kernel
theorem dX12_start_105 : decode cX12_start 105 = .ok (.aload_n 0, 1) := by decide +kernel
theorem dX12_start_106 : decode cX12_start 106 = .ok (.iconst 0, 1) := by decide +kernel
theorem dX12_start_107 : decode cX12_start 107 = .ok (.putfield 253, 3) := by decide +kernel
theorem dX12_start_110 : decode cX12_start 110 = .ok (.iconst 0, 1) := by decide +kernel
theorem dX12_start_111 : decode cX12_start 111 = .ok (.istore 4, 2) := by decide +kernel
theorem dX12_start_113 : decode cX12_start 113 = .ok (.iload 4, 2) := by decide +kernel
theorem dX12_start_115 : decode cX12_start 115 = .ok (.ldc 179, 2) := by decide +kernel
theorem dX12_start_117 : decode cX12_start 117 = .ok (.if_icmp .ge 17, 3) := by decide +kernel
theorem dX12_start_120 : decode cX12_start 120 = .ok (.aload_n 0, 1) := by decide +kernel
theorem dX12_start_121 : decode cX12_start 121 = .ok (.getfield 195, 3) := by decide +kernel
theorem dX12_start_124 : decode cX12_start 124 = .ok (.iload 4, 2) := by decide +kernel
theorem dX12_start_126 : decode cX12_start 126 = .ok (.iconst 0, 1) := by decide +kernel
theorem dX12_start_127 : decode cX12_start 127 = .ok (.iastore, 1) := by decide +kernel
theorem dX12_start_128 : decode cX12_start 128 = .ok (.iinc 4 1, 3) := by decide +kernel
theorem dX12_start_131 : decode cX12_start 131 = .ok (.goto (-18), 3) := by decide +kernel
theorem dX12_start_134 : decode cX12_start 134 = .ok (.aload_n 0, 1) := by decide +kernel
theorem dX12_start_135 : decode cX12_start 135 = .ok (.iconst 0, 1) := by decide +kernel
theorem dX12_start_136 : decode cX12_start 136 = .ok (.putfield 256, 3) := by decide +kernel
theorem dX12_start_139 : decode cX12_start 139 = .ok (.aload_n 0, 1) := by decide +kernel
theorem dX12_start_140 : decode cX12_start 140 = .ok (.iconst 0, 1) := by decide +kernel
theorem dX12_start_141 : decode cX12_start 141 = .ok (.putfield 259, 3) := by decide +kernel
theorem dX12_start_144 : decode cX12_start 144 = .ok (.aload_n 0, 1) := by decide +kernel
theorem dX12_start_145 : decode cX12_start 145 = .ok (.lconst 0, 1) := by decide +kernel
theorem dX12_start_146 : decode cX12_start 146 = .ok (.putfield 262, 3) := by decide +kernel
theorem dX12_start_149 : decode cX12_start 149 = .ok (.aload_n 0, 1) := by decide +kernel
theorem dX12_start_150 : decode cX12_start 150 = .ok (.iconst 0, 1) := by decide +kernel
theorem dX12_start_151 : decode cX12_start 151 = .ok (.putfield 265, 3) := by decide +kernel
theorem dX12_start_154 : decode cX12_start 154 = .ok (.aload_n 0, 1) := by decide +kernel
theorem dX12_start_155 : decode cX12_start 155 = .ok (.iconst 0, 1) := by decide +kernel
theorem dX12_start_156 : decode cX12_start 156 = .ok (.putfield 268, 3) := by decide +kernel
theorem dX12_start_159 : decode cX12_start 159 = .ok (.aload_n 0, 1) := by decide +kernel
theorem dX12_start_160 : decode cX12_start 160 = .ok (.lconst 0, 1) := by decide +kernel
theorem dX12_start_161 : decode cX12_start 161 = .ok (.putfield 271, 3) := by decide +kernel
theorem dX12_start_164 : decode cX12_start 164 = .ok (.aload_n 0, 1) := by decide +kernel
theorem dX12_start_165 : decode cX12_start 165 = .ok (.iconst 1, 1) := by decide +kernel
theorem dX12_start_166 : decode cX12_start 166 = .ok (.putfield 152, 3) := by decide +kernel
theorem dX12_start_169 : decode cX12_start 169 = .ok (.aload_n 0, 1) := by decide +kernel
theorem dX12_start_170 : decode cX12_start 170 = .ok (.bipush 16, 2) := by decide +kernel
theorem dX12_start_172 : decode cX12_start 172 = .ok (.invokevirtual 274, 3) := by decide +kernel
theorem dX12_start_175 : decode cX12_start 175 = .ok (.istore 4, 2) := by decide +kernel
theorem dX12_start_177 : decode cX12_start 177 = .ok (.aload_n 0, 1) := by decide +kernel
theorem dX12_start_178 : decode cX12_start 178 = .ok (.aload_n 0, 1) := by decide +kernel
theorem dX12_start_179 : decode cX12_start 179 = .ok (.getfield 10, 3) := by decide +kernel
theorem dX12_start_182 : decode cX12_start 182 = .ok (.getfield 277, 3) := by decide +kernel
theorem dX12_start_185 : decode cX12_start 185 = .ok (.invokevirtual 280, 3) := by decide +kernel
theorem dX12_start_188 : decode cX12_start 188 = .ok (.iconst 1, 1) := by decide +kernel
theorem dX12_start_189 : decode cX12_start 189 = .ok (.ireturn, 1) := by decide +kernel
def wp_X12_start : List Cond := .code yX12_start cX12_start 5 (some .boolean) :: (((([.constant RX12 179 (140000), .fieldLink RX12 256 "SteadyMachineModel" "frames" "I", .fieldLink RX12 259 "SteadyMachineModel" "flies" "Z", .fieldLink RX12 262 "SteadyMachineModel" "steps" "J", .fieldLink RX12 265 "SteadyMachineModel" "taken" "I", .fieldLink RX12 268 "SteadyMachineModel" "outputs" "I", .fieldLink RX12 271 "SteadyMachineModel" "allOutputs" "J", .fieldLink RX12 152 "SteadyMachineModel" "state" "I", .fieldLink RX12 10 "SteadyMachineModel" "image" "LSteadyMachineModel$Image;", .fieldLink RX12 195 "SteadyMachineModel" "marked" "[I", .fieldLink RX12 231 "SteadyMachineModel" "k" "I", .fieldLink RX12 234 "SteadyMachineModel" "limit" "I", .fieldLink RX12 237 "SteadyMachineModel" "reached" "I", .fieldLink RX12 240 "SteadyMachineModel" "made" "J", .fieldLink RX12 244 "SteadyMachineModel" "flips" "I", .fieldLink RX12 247 "SteadyMachineModel" "things" "I", .fieldLink RX12 250 "SteadyMachineModel" "used" "I", .fieldLink RX12 253 "SteadyMachineModel" "stamp" "I", .constant RX12 230 (60000)] ++ (wsV RX12 274 RX12 yX12_make wp_X12_make)) ++ (wsV RX12 280 RX12 yX12_enter wp_X12_enter)) ++ wsX110) ++ wsX120)
theorem wq_X12_start : wp_X12_start.all goodWord = true := wa_c rfl (wa_a (wa_a (wa_a (wa_a (by decide +kernel) (wa_V wq_X12_make)) (wa_V wq_X12_enter)) uq_X11) uq_X12)
theorem wt_X12_start : GoodIn lw_tbl wp_X12_start := wm_c (List.mem_of_getElem? (i := 1628) (by decide +kernel)) rfl (wm_a (wm_a (wm_a (wm_a (goodIn_r _ [1487, 1508, 1514, 1517, 1518, 1521, 1522, 1516, 1490, 1503, 1524, 1525, 1526, 1527, 1528, 1497, 1505, 1504, 1629] (by decide +kernel) (by decide +kernel)) (wm_a (goodIn_r _ [1630, 1632, 102, 147] (by decide +kernel) (by decide +kernel)) wt_X12_make)) (wm_a (goodIn_r _ [1654, 1656, 108, 147] (by decide +kernel) (by decide +kernel)) wt_X12_enter)) ut_X11) ut_X12)
theorem wg_X12_start_X12_make_274 : GoodIn wp_X12_start (wsV RX12 274 RX12 yX12_make wp_X12_make) := goodIn_sub (fun w h => List.mem_cons_of_mem _ (List.mem_append_left _ (List.mem_append_left _ (List.mem_append_left _ (List.mem_append_right _ h))))) (wa_V wq_X12_make)
theorem wg_X12_start_X12_enter_280 : GoodIn wp_X12_start (wsV RX12 280 RX12 yX12_enter wp_X12_enter) := goodIn_sub (fun w h => List.mem_cons_of_mem _ (List.mem_append_left _ (List.mem_append_left _ (List.mem_append_right _ h)))) (wa_V wq_X12_enter)
theorem wi_X12_start_X11 : ∀ w ∈ wsX110, w ∈ wp_X12_start := fun w h => List.mem_cons_of_mem _ (List.mem_append_left _ (List.mem_append_right _ h))
theorem wi_X12_start_X12 : ∀ w ∈ wsX120, w ∈ wp_X12_start := fun w h => List.mem_cons_of_mem _ (List.mem_append_right _ h)
set_option maxHeartbeats 4000000 in
set_option maxRecDepth 100000 in
theorem c_X12_start (l : Launch) (D : va_G) (sz t0 : Nat) (σ : sm_S) (α : sm_A) (p1 : Int32) (p2 : Int32) (K : Int32 → sm_S → Prop) (hF : mp_X12_start σ p1 p2 K) : Met l yX12_start wp_X12_start { frames := 3, cells := 0, slots := 0, locals := 67 } (sm_P sm_wM sm_tM 40 D sz t0 σ α [.ref (α.1 1), .int p1, .int p2]) (va_Qi K (sm_B sm_wM D α) (sm_a α 40 sz)) 0 0 (sm_a α 40 sz) := by
  refine Met.ofW (cc := cX12_start) (maxL := 5) (ret := (some .boolean)) (by decide) rfl ?_
  intro p e s m args below meth c s₁ B hml hv
  obtain ⟨rfl, hsz, hP, hK, hD0, hE⟩ := hv
  have hx := B.exec
  have hb := B.bytes
  have hr := B.returns
  have hts := atoms_spec (ws := wp_X12_start) B.pre
  have hown : s.vm.findClass RX12 = some m.cls := findClass_of_methodNamed B.named
  have hlocks := B.notSynchronized
  subst hsz
  have hD : sm_D (sm_a α 40 s.heap.size) α 40 := hD0.own
  have hA : ∀ q : Nat, s.heap.size ≤ q → sm_a α 40 s.heap.size q := fun q h => Or.inr h
  generalize hAe : sm_a α 40 s.heap.size = A at hD hA hE ⊢
  have hS : va_S A s.heap s.heap [] := va_S.rf
  have in_X11 : ∀ w ∈ wsX110, w ∈ wp_X12_start := wi_X12_start_X11
  have in_X12 : ∀ w ∈ wsX120, w ∈ wp_X12_start := wi_X12_start_X12
  have k_0 := hts (.constant RX12 179 (140000)) (by decide +kernel)
  have k_1 := hts (.fieldLink RX12 256 "SteadyMachineModel" "frames" "I") (by decide +kernel)
  have k_2 := hts (.fieldLink RX12 259 "SteadyMachineModel" "flies" "Z") (by decide +kernel)
  have k_3 := hts (.fieldLink RX12 262 "SteadyMachineModel" "steps" "J") (by decide +kernel)
  have k_4 := hts (.fieldLink RX12 265 "SteadyMachineModel" "taken" "I") (by decide +kernel)
  have k_5 := hts (.fieldLink RX12 268 "SteadyMachineModel" "outputs" "I") (by decide +kernel)
  have k_6 := hts (.fieldLink RX12 271 "SteadyMachineModel" "allOutputs" "J") (by decide +kernel)
  have k_7 := hts (.fieldLink RX12 152 "SteadyMachineModel" "state" "I") (by decide +kernel)
  have k_8 := hts (.fieldLink RX12 10 "SteadyMachineModel" "image" "LSteadyMachineModel$Image;") (by decide +kernel)
  have k_9 := hts (.fieldLink RX12 195 "SteadyMachineModel" "marked" "[I") (by decide +kernel)
  have k_10 := hts (.fieldLink RX12 231 "SteadyMachineModel" "k" "I") (by decide +kernel)
  have k_11 := hts (.fieldLink RX12 234 "SteadyMachineModel" "limit" "I") (by decide +kernel)
  have k_12 := hts (.fieldLink RX12 237 "SteadyMachineModel" "reached" "I") (by decide +kernel)
  have k_13 := hts (.fieldLink RX12 240 "SteadyMachineModel" "made" "J") (by decide +kernel)
  have k_14 := hts (.fieldLink RX12 244 "SteadyMachineModel" "flips" "I") (by decide +kernel)
  have k_15 := hts (.fieldLink RX12 247 "SteadyMachineModel" "things" "I") (by decide +kernel)
  have k_16 := hts (.fieldLink RX12 250 "SteadyMachineModel" "used" "I") (by decide +kernel)
  have k_17 := hts (.fieldLink RX12 253 "SteadyMachineModel" "stamp" "I") (by decide +kernel)
  have k_18 := hts (.constant RX12 230 (60000)) (by decide +kernel)
  have hl := lv_entry ([.ref (α.1 1), .int p1, .int p2]) (n := 5) (Nat.le_of_ble_eq_true rfl)
  rw [lg_entry_eq]
  generalize (lg_sl ([.ref (α.1 1), .int p1, .int p2]) ++ List.replicate (5 - (lg_sl ([.ref (α.1 1), .int p1, .int p2])).length) Slot.unset).toArray = ls at hl ⊢
  have hl : lv_has ls 5 [(0, .ref (α.1 1)), (1, .int p1), (2, .int p2)] := hl
  have B113 : ∀ (n : Nat) (σ : sm_S) (x4 : Int32), mp_X12_start_113 K n σ x4 → sm_J p l e (headSpec wp_X12_start { frames := 3, cells := 0, slots := 0, locals := 67 }).room s m ([.ref (α.1 1), .int p1, .int p2] : List Value).toArray below meth c (MQ below (va_Qi K (sm_B sm_wM D α) A) ([.ref (α.1 1), .int p1, .int p2] : List Value).toArray s 0 0 A) D A 5 (sm_wM σ α) 113 [(0, .ref (α.1 1)), (4, .int x4)] [] := by
    intro n113
    induction n113 with
    | zero =>
      intro σ x4 hF
      exact hF.elim
    | succ n113 ih113 =>
      intro σ x4 hF H locs ls hP hS hl
      unfold mp_X12_start_113 at hF
      refine lv_iload hx hb dX12_start_113 (lv_at hl 1 rfl) ?_
      refine lv_ldc (v := 140000) hx hb hown k_0 dX12_start_115 ?_
      refine lv_icmp_ge (tgt := 134) hx hb dX12_start_117 (by decide) (fun h1 => ?_) (fun h1 => ?_)
      · replace hF := hF.1 h1
        refine lv_aload_n hx hb dX12_start_134 rfl (lv_at hl 0 rfl) ?_
        refine lv_iconst (v := 0) hx hb dX12_start_135 (by decide) ?_
        refine va_put (D := D) (ci := 12) (v := .int 0) (ty := .int) (C := RX12) (T := TX12) (N := 42) hx hb hts in_X12 tyX12 tyX12_ok nmX12 hown hK hP (hD.to (sm_wM_m _ _)) hS 1 (sm_gX12 σ α) rfl 18 (by decide) k_1 (fun _ h9 => h9) rfl (by decide +kernel) rfl rfl (Nat.le_of_ble_eq_true rfl) dX12_start_136 (fun H locs hP _ hS => ?_)
        rw [sm_iM14] at hP
        obtain ⟨σ2, eσ2⟩ : ∃ x : sm_S, x = sm_i σ 14 0 := ⟨_, rfl⟩
        replace hF := hF σ2 eσ2
        rw [← eσ2] at hP
        refine lv_aload_n hx hb dX12_start_139 rfl (lv_at hl 0 rfl) ?_
        refine lv_iconst (v := 0) hx hb dX12_start_140 (by decide) ?_
        refine va_put (D := D) (ci := 12) (v := .int 0) (ty := .boolean) (C := RX12) (T := TX12) (N := 42) hx hb hts in_X12 tyX12 tyX12_ok nmX12 hown hK hP (hD.to (sm_wM_m _ _)) hS 1 (sm_gX12 σ2 α) rfl 24 (by decide) k_2 (fun _ h9 => h9) rfl (by decide +kernel) sm_z0.1 sm_z0.2 (Nat.le_of_ble_eq_true rfl) dX12_start_141 (fun H locs hP _ hS => ?_)
        rw [sm_iM15] at hP
        obtain ⟨σ3, eσ3⟩ : ∃ x : sm_S, x = sm_i σ2 15 0 := ⟨_, rfl⟩
        replace hF := hF σ3 eσ3
        rw [← eσ3] at hP
        refine lv_aload_n hx hb dX12_start_144 rfl (lv_at hl 0 rfl) ?_
        refine lv_lconst (v := 0) hx hb dX12_start_145 (by decide) ?_
        refine va_put (D := D) (ci := 12) (v := .long 0) (ty := .long) (C := RX12) (T := TX12) (N := 42) hx hb hts in_X12 tyX12 tyX12_ok nmX12 hown hK hP (hD.to (sm_wM_m _ _)) hS 1 (sm_gX12 σ3 α) rfl 27 (by decide) k_3 (fun _ h9 => h9) rfl (by decide +kernel) rfl rfl (Nat.le_of_ble_eq_true rfl) dX12_start_146 (fun H locs hP _ hS => ?_)
        rw [sm_jM0] at hP
        obtain ⟨σ4, eσ4⟩ : ∃ x : sm_S, x = sm_j σ3 0 0 := ⟨_, rfl⟩
        replace hF := hF σ4 eσ4
        rw [← eσ4] at hP
        refine lv_aload_n hx hb dX12_start_149 rfl (lv_at hl 0 rfl) ?_
        refine lv_iconst (v := 0) hx hb dX12_start_150 (by decide) ?_
        refine va_put (D := D) (ci := 12) (v := .int 0) (ty := .int) (C := RX12) (T := TX12) (N := 42) hx hb hts in_X12 tyX12 tyX12_ok nmX12 hown hK hP (hD.to (sm_wM_m _ _)) hS 1 (sm_gX12 σ4 α) rfl 28 (by decide) k_4 (fun _ h9 => h9) rfl (by decide +kernel) rfl rfl (Nat.le_of_ble_eq_true rfl) dX12_start_151 (fun H locs hP _ hS => ?_)
        rw [sm_iM18] at hP
        obtain ⟨σ5, eσ5⟩ : ∃ x : sm_S, x = sm_i σ4 18 0 := ⟨_, rfl⟩
        replace hF := hF σ5 eσ5
        rw [← eσ5] at hP
        refine lv_aload_n hx hb dX12_start_154 rfl (lv_at hl 0 rfl) ?_
        refine lv_iconst (v := 0) hx hb dX12_start_155 (by decide) ?_
        refine va_put (D := D) (ci := 12) (v := .int 0) (ty := .int) (C := RX12) (T := TX12) (N := 42) hx hb hts in_X12 tyX12 tyX12_ok nmX12 hown hK hP (hD.to (sm_wM_m _ _)) hS 1 (sm_gX12 σ5 α) rfl 31 (by decide) k_5 (fun _ h9 => h9) rfl (by decide +kernel) rfl rfl (Nat.le_of_ble_eq_true rfl) dX12_start_156 (fun H locs hP _ hS => ?_)
        rw [sm_iM20] at hP
        obtain ⟨σ6, eσ6⟩ : ∃ x : sm_S, x = sm_i σ5 20 0 := ⟨_, rfl⟩
        replace hF := hF σ6 eσ6
        rw [← eσ6] at hP
        refine lv_aload_n hx hb dX12_start_159 rfl (lv_at hl 0 rfl) ?_
        refine lv_lconst (v := 0) hx hb dX12_start_160 (by decide) ?_
        refine va_put (D := D) (ci := 12) (v := .long 0) (ty := .long) (C := RX12) (T := TX12) (N := 42) hx hb hts in_X12 tyX12 tyX12_ok nmX12 hown hK hP (hD.to (sm_wM_m _ _)) hS 1 (sm_gX12 σ6 α) rfl 32 (by decide) k_6 (fun _ h9 => h9) rfl (by decide +kernel) rfl rfl (Nat.le_of_ble_eq_true rfl) dX12_start_161 (fun H locs hP _ hS => ?_)
        rw [sm_jM1] at hP
        obtain ⟨σ7, eσ7⟩ : ∃ x : sm_S, x = sm_j σ6 1 0 := ⟨_, rfl⟩
        replace hF := hF σ7 eσ7
        rw [← eσ7] at hP
        refine lv_aload_n hx hb dX12_start_164 rfl (lv_at hl 0 rfl) ?_
        refine lv_iconst (v := 1) hx hb dX12_start_165 (by decide) ?_
        refine va_put (D := D) (ci := 12) (v := .int 1) (ty := .int) (C := RX12) (T := TX12) (N := 42) hx hb hts in_X12 tyX12 tyX12_ok nmX12 hown hK hP (hD.to (sm_wM_m _ _)) hS 1 (sm_gX12 σ7 α) rfl 26 (by decide) k_7 (fun _ h9 => h9) rfl (by decide +kernel) rfl rfl (Nat.le_of_ble_eq_true rfl) dX12_start_166 (fun H locs hP _ hS => ?_)
        rw [sm_iM17] at hP
        obtain ⟨σ8, eσ8⟩ : ∃ x : sm_S, x = sm_i σ7 17 1 := ⟨_, rfl⟩
        replace hF := hF σ8 eσ8
        rw [← eσ8] at hP
        refine lv_aload_n hx hb dX12_start_169 rfl (lv_at hl 0 rfl) ?_
        refine lv_bipush (v := 16) hx hb dX12_start_170 (by decide) ?_
        refine sm_vi (As := [.int 16]) (rest := []) hP hK hD hE hS hA ⟨hx, hb, hml, hown, hts⟩ hl.1 (c_X12_make l D H.size t0 σ8 α 16 _ hF) (cwV 1 hts wg_X12_start_X12_make_274 rfl rfl rfl (by decide +kernel) ⟨Nat.le_of_ble_eq_true rfl, Nat.le_of_ble_eq_true rfl⟩) (va_recv hK hP (ci := 12) (q0 := 1) rfl (sm_gX12 σ8 α)) rfl rfl (Nat.le_of_ble_eq_true rfl) dX12_start_172 ⟨Nat.zero_le _, Nat.zero_le _⟩ (fun r10 σ9 H locs hF hP hS => ?_)
        refine lv_istore (lv' := [(4, .int r10), (0, .ref (α.1 1))]) hx hb dX12_start_175 hl (by decide) rfl (fun ls hl => ?_)
        refine lv_aload_n hx hb dX12_start_177 rfl (lv_at hl 1 rfl) ?_
        refine lv_aload_n hx hb dX12_start_178 rfl (lv_at hl 1 rfl) ?_
        refine va_get (D := D) (ci := 12) (v := .ref (α.1 0)) (C := RX12) (T := TX12) (N := 42) hx hb hts in_X12 hown hK hP 1 (sm_gX12 σ9 α) rfl 0 (by decide) k_8 (fun _ h9 => h9) rfl dX12_start_179 ?_
        refine va_getN (D := D) (ci := 11) (v := .int (σ9.1 8)) (C := RX11) (T := TX11) (N := 28) hx hb hts in_X11 hown hK hP 0 (sm_gX11 σ9 α) rfl 27 (by decide) (va_Nw.use rfl (hE.1 (.fieldLinkNest "SteadyMachineModel" 277 "SteadyMachineModel$Image" "first" "I" "SteadyMachineModel") (by decide +kernel))) (fun _ h9 => h9) rfl dX12_start_182 ?_
        refine sm_vv (As := [.int (σ9.1 8)]) (rest := []) hP hK hD hE hS hA ⟨hx, hb, hml, hown, hts⟩ hl.1 (c_X12_enter l D H.size t0 σ9 α (σ9.1 8) _ hF) (cwV 1 hts wg_X12_start_X12_enter_280 rfl rfl rfl (by decide +kernel) ⟨Nat.le_of_ble_eq_true rfl, Nat.le_of_ble_eq_true rfl⟩) (va_recv hK hP (ci := 12) (q0 := 1) rfl (sm_gX12 σ9 α)) rfl rfl (Nat.le_of_ble_eq_true rfl) dX12_start_185 ⟨Nat.zero_le _, Nat.zero_le _⟩ (fun σ11 H locs hF hP hS => ?_)
        refine lv_iconst (v := 1) hx hb dX12_start_188 (by decide) ?_
        exact W.zret (v := 1) hx hb hr sm_z1.1 (fun t ht hW => ⟨⟨1, σ11, rfl, hF, (by unfold sm_B; rw [ht]; exact hP)⟩, hS.F ht⟩) hS.2.2 dX12_start_189
      · replace hF := hF.2 h1
        refine lv_aload_n hx hb dX12_start_120 rfl (lv_at hl 0 rfl) ?_
        refine va_get (D := D) (ci := 12) (v := .ref (α.1 30)) (C := RX12) (T := TX12) (N := 42) hx hb hts in_X12 hown hK hP 1 (sm_gX12 σ α) rfl 13 (by decide) k_9 (fun _ h9 => h9) rfl dX12_start_121 ?_
        refine lv_iload hx hb dX12_start_124 (lv_at hl 1 rfl) ?_
        refine lv_iconst (v := 0) hx hb dX12_start_126 (by decide) ?_
        obtain ⟨h12, hF⟩ := hF
        refine va_iast (n := (σ.2.2.1 30)) (f := (σ.2.2.2.1 30)) (x := 0) hx hb hK hP (hD.to (sm_wM_m _ _)) hS 30 28 (sm_aM30 σ α) (sm_yM30 α) h12 dX12_start_127 (fun H locs hP _ hS => ?_)
        rw [sm_rM30] at hP
        obtain ⟨σ13, eσ13⟩ : ∃ x : sm_S, x = sm_r σ 30 (upd (σ.2.2.2.1 30) x4.toNatClampNeg 0) := ⟨_, rfl⟩
        replace hF := hF σ13 eσ13
        rw [← eσ13] at hP
        obtain ⟨v14, ev14⟩ : ∃ y : Int32, y = x4 + 1 := ⟨_, rfl⟩
        replace hF := hF v14 ev14
        refine lv_iinc (v := v14) (lv' := [(4, .int v14), (0, .ref (α.1 1))]) hx hb dX12_start_128 hl (k := 1) rfl (by rw [ev14]; rfl) (by decide) rfl (fun ls hl => ?_)
        refine lv_goto (tgt := 113) hx hb dX12_start_131 (by decide) ?_
        exact ih113 σ13 v14 hF H locs ls hP hS (lv_sub hl [1, 0] rfl)
  have B60 : ∀ (σ : sm_S) (x3 : Int32) (y1 : Int32), mp_X12_start_60 K σ x3 y1 → sm_J p l e (headSpec wp_X12_start { frames := 3, cells := 0, slots := 0, locals := 67 }).room s m ([.ref (α.1 1), .int p1, .int p2] : List Value).toArray below meth c (MQ below (va_Qi K (sm_B sm_wM D α) A) ([.ref (α.1 1), .int p1, .int p2] : List Value).toArray s 0 0 A) D A 5 (sm_wM σ α) 60 [(0, .ref (α.1 1)), (3, .int x3)] [.int y1, .ref (α.1 1)] := by
    intro σ x3 y1 hF H locs ls hP hS hl
    unfold mp_X12_start_60 at hF
    refine va_put (D := D) (ci := 12) (v := .int y1) (ty := .int) (C := RX12) (T := TX12) (N := 42) hx hb hts in_X12 tyX12 tyX12_ok nmX12 hown hK hP (hD.to (sm_wM_m _ _)) hS 1 (sm_gX12 σ α) rfl 34 (by decide) k_10 (fun _ h9 => h9) rfl (by decide +kernel) rfl rfl (Nat.le_of_ble_eq_true rfl) dX12_start_60 (fun H locs hP _ hS => ?_)
    rw [sm_iM21] at hP
    obtain ⟨σ15, eσ15⟩ : ∃ x : sm_S, x = sm_i σ 21 y1 := ⟨_, rfl⟩
    replace hF := hF σ15 eσ15
    rw [← eσ15] at hP
    refine lv_aload_n hx hb dX12_start_63 rfl (lv_at hl 0 rfl) ?_
    refine lv_iload_n hx hb dX12_start_64 rfl (lv_at hl 1 rfl) ?_
    refine lv_aload_n hx hb dX12_start_65 rfl (lv_at hl 0 rfl) ?_
    refine va_get (D := D) (ci := 12) (v := .int (σ15.1 21)) (C := RX12) (T := TX12) (N := 42) hx hb hts in_X12 hown hK hP 1 (sm_gX12 σ15 α) rfl 34 (by decide) k_10 (fun _ h9 => h9) rfl dX12_start_66 ?_
    refine lv_imul hx hb dX12_start_69 ?_
    refine lv_aload_n hx hb dX12_start_70 rfl (lv_at hl 0 rfl) ?_
    refine va_get (D := D) (ci := 12) (v := .int (σ15.1 21)) (C := RX12) (T := TX12) (N := 42) hx hb hts in_X12 hown hK hP 1 (sm_gX12 σ15 α) rfl 34 (by decide) k_10 (fun _ h9 => h9) rfl dX12_start_71 ?_
    refine lv_iconst (v := 1) hx hb dX12_start_74 (by decide) ?_
    refine lv_iadd hx hb dX12_start_75 ?_
    obtain ⟨h23, hF⟩ := hF
    refine lv_idiv hx hb dX12_start_76 h23 ?_
    refine va_put (D := D) (ci := 12) (v := .int ((x3 * (σ15.1 21)) / ((σ15.1 21) + 1))) (ty := .int) (C := RX12) (T := TX12) (N := 42) hx hb hts in_X12 tyX12 tyX12_ok nmX12 hown hK hP (hD.to (sm_wM_m _ _)) hS 1 (sm_gX12 σ15 α) rfl 35 (by decide) k_11 (fun _ h9 => h9) rfl (by decide +kernel) rfl rfl (Nat.le_of_ble_eq_true rfl) dX12_start_77 (fun H locs hP _ hS => ?_)
    rw [sm_iM22] at hP
    obtain ⟨σ16, eσ16⟩ : ∃ x : sm_S, x = sm_i σ15 22 ((x3 * (σ15.1 21)) / ((σ15.1 21) + 1)) := ⟨_, rfl⟩
    replace hF := hF σ16 eσ16
    rw [← eσ16] at hP
    refine lv_aload_n hx hb dX12_start_80 rfl (lv_at hl 0 rfl) ?_
    refine lv_iconst (v := 0) hx hb dX12_start_81 (by decide) ?_
    refine va_put (D := D) (ci := 12) (v := .int 0) (ty := .int) (C := RX12) (T := TX12) (N := 42) hx hb hts in_X12 tyX12 tyX12_ok nmX12 hown hK hP (hD.to (sm_wM_m _ _)) hS 1 (sm_gX12 σ16 α) rfl 36 (by decide) k_12 (fun _ h9 => h9) rfl (by decide +kernel) rfl rfl (Nat.le_of_ble_eq_true rfl) dX12_start_82 (fun H locs hP _ hS => ?_)
    rw [sm_iM23] at hP
    obtain ⟨σ17, eσ17⟩ : ∃ x : sm_S, x = sm_i σ16 23 0 := ⟨_, rfl⟩
    replace hF := hF σ17 eσ17
    rw [← eσ17] at hP
    refine lv_aload_n hx hb dX12_start_85 rfl (lv_at hl 0 rfl) ?_
    refine lv_lconst (v := 0) hx hb dX12_start_86 (by decide) ?_
    refine va_put (D := D) (ci := 12) (v := .long 0) (ty := .long) (C := RX12) (T := TX12) (N := 42) hx hb hts in_X12 tyX12 tyX12_ok nmX12 hown hK hP (hD.to (sm_wM_m _ _)) hS 1 (sm_gX12 σ17 α) rfl 37 (by decide) k_13 (fun _ h9 => h9) rfl (by decide +kernel) rfl rfl (Nat.le_of_ble_eq_true rfl) dX12_start_87 (fun H locs hP _ hS => ?_)
    rw [sm_jM2] at hP
    obtain ⟨σ18, eσ18⟩ : ∃ x : sm_S, x = sm_j σ17 2 0 := ⟨_, rfl⟩
    replace hF := hF σ18 eσ18
    rw [← eσ18] at hP
    refine lv_aload_n hx hb dX12_start_90 rfl (lv_at hl 0 rfl) ?_
    refine lv_iconst (v := 0) hx hb dX12_start_91 (by decide) ?_
    refine va_put (D := D) (ci := 12) (v := .int 0) (ty := .int) (C := RX12) (T := TX12) (N := 42) hx hb hts in_X12 tyX12 tyX12_ok nmX12 hown hK hP (hD.to (sm_wM_m _ _)) hS 1 (sm_gX12 σ18 α) rfl 38 (by decide) k_14 (fun _ h9 => h9) rfl (by decide +kernel) rfl rfl (Nat.le_of_ble_eq_true rfl) dX12_start_92 (fun H locs hP _ hS => ?_)
    rw [sm_iM24] at hP
    obtain ⟨σ19, eσ19⟩ : ∃ x : sm_S, x = sm_i σ18 24 0 := ⟨_, rfl⟩
    replace hF := hF σ19 eσ19
    rw [← eσ19] at hP
    refine lv_aload_n hx hb dX12_start_95 rfl (lv_at hl 0 rfl) ?_
    refine lv_iconst (v := 0) hx hb dX12_start_96 (by decide) ?_
    refine va_put (D := D) (ci := 12) (v := .int 0) (ty := .int) (C := RX12) (T := TX12) (N := 42) hx hb hts in_X12 tyX12 tyX12_ok nmX12 hown hK hP (hD.to (sm_wM_m _ _)) hS 1 (sm_gX12 σ19 α) rfl 7 (by decide) k_15 (fun _ h9 => h9) rfl (by decide +kernel) rfl rfl (Nat.le_of_ble_eq_true rfl) dX12_start_97 (fun H locs hP _ hS => ?_)
    rw [sm_iM11] at hP
    obtain ⟨σ20, eσ20⟩ : ∃ x : sm_S, x = sm_i σ19 11 0 := ⟨_, rfl⟩
    replace hF := hF σ20 eσ20
    rw [← eσ20] at hP
    refine lv_aload_n hx hb dX12_start_100 rfl (lv_at hl 0 rfl) ?_
    refine lv_iconst (v := 0) hx hb dX12_start_101 (by decide) ?_
    refine va_put (D := D) (ci := 12) (v := .int 0) (ty := .int) (C := RX12) (T := TX12) (N := 42) hx hb hts in_X12 tyX12 tyX12_ok nmX12 hown hK hP (hD.to (sm_wM_m _ _)) hS 1 (sm_gX12 σ20 α) rfl 15 (by decide) k_16 (fun _ h9 => h9) rfl (by decide +kernel) rfl rfl (Nat.le_of_ble_eq_true rfl) dX12_start_102 (fun H locs hP _ hS => ?_)
    rw [sm_iM13] at hP
    obtain ⟨σ21, eσ21⟩ : ∃ x : sm_S, x = sm_i σ20 13 0 := ⟨_, rfl⟩
    replace hF := hF σ21 eσ21
    rw [← eσ21] at hP
    refine lv_aload_n hx hb dX12_start_105 rfl (lv_at hl 0 rfl) ?_
    refine lv_iconst (v := 0) hx hb dX12_start_106 (by decide) ?_
    refine va_put (D := D) (ci := 12) (v := .int 0) (ty := .int) (C := RX12) (T := TX12) (N := 42) hx hb hts in_X12 tyX12 tyX12_ok nmX12 hown hK hP (hD.to (sm_wM_m _ _)) hS 1 (sm_gX12 σ21 α) rfl 14 (by decide) k_17 (fun _ h9 => h9) rfl (by decide +kernel) rfl rfl (Nat.le_of_ble_eq_true rfl) dX12_start_107 (fun H locs hP _ hS => ?_)
    rw [sm_iM12] at hP
    obtain ⟨σ22, eσ22⟩ : ∃ x : sm_S, x = sm_i σ21 12 0 := ⟨_, rfl⟩
    replace hF := hF σ22 eσ22
    rw [← eσ22] at hP
    refine lv_iconst (v := 0) hx hb dX12_start_110 (by decide) ?_
    refine lv_istore (lv' := [(4, .int 0), (0, .ref (α.1 1)), (3, .int x3)]) hx hb dX12_start_111 hl (by decide) rfl (fun ls hl => ?_)
    obtain ⟨n113, hF⟩ := hF
    exact B113 n113 σ22 0 hF H locs ls hP hS (lv_sub hl [1, 0] rfl)
  have B37 : ∀ (σ : sm_S) (x2 : Int32) (y0 : Int32), mp_X12_start_37 K σ x2 y0 → sm_J p l e (headSpec wp_X12_start { frames := 3, cells := 0, slots := 0, locals := 67 }).room s m ([.ref (α.1 1), .int p1, .int p2] : List Value).toArray below meth c (MQ below (va_Qi K (sm_B sm_wM D α) A) ([.ref (α.1 1), .int p1, .int p2] : List Value).toArray s 0 0 A) D A 5 (sm_wM σ α) 37 [(0, .ref (α.1 1)), (2, .int x2)] [.int y0] := by
    intro σ x2 y0 hF H locs ls hP hS hl
    unfold mp_X12_start_37 at hF
    refine lv_istore_n (lv' := [(3, .int y0), (0, .ref (α.1 1)), (2, .int x2)]) hx hb dX12_start_37 rfl hl (by decide) rfl (fun ls hl => ?_)
    refine lv_aload_n hx hb dX12_start_38 rfl (lv_at hl 1 rfl) ?_
    refine lv_iload_n hx hb dX12_start_39 rfl (lv_at hl 2 rfl) ?_
    refine lv_iconst (v := 1) hx hb dX12_start_40 (by decide) ?_
    refine lv_icmp_ge (tgt := 48) hx hb dX12_start_41 (by decide) (fun h24 => ?_) (fun h24 => ?_)
    · replace hF := hF.1 h24
      refine lv_iload_n hx hb dX12_start_48 rfl (lv_at hl 2 rfl) ?_
      refine lv_bipush (v := 64) hx hb dX12_start_49 (by decide) ?_
      refine lv_icmp_le (tgt := 59) hx hb dX12_start_51 (by decide) (fun h25 => ?_) (fun h25 => ?_)
      · replace hF := hF.1 h25
        refine lv_iload_n hx hb dX12_start_59 rfl (lv_at hl 2 rfl) ?_
        exact B60 σ y0 x2 hF H locs ls hP hS (lv_sub hl [1, 0] rfl)
      · replace hF := hF.2 h25
        refine lv_bipush (v := 64) hx hb dX12_start_54 (by decide) ?_
        refine lv_goto (tgt := 60) hx hb dX12_start_56 (by decide) ?_
        exact B60 σ y0 64 hF H locs ls hP hS (lv_sub hl [1, 0] rfl)
    · replace hF := hF.2 h24
      refine lv_iconst (v := 1) hx hb dX12_start_44 (by decide) ?_
      refine lv_goto (tgt := 60) hx hb dX12_start_45 (by decide) ?_
      exact B60 σ y0 1 hF H locs ls hP hS (lv_sub hl [1, 0] rfl)
  unfold mp_X12_start at hF
  revert hP hS
  generalize hLo : ([] : List Loc) = locs
  suffices h9 : ∀ (H : Heap) (locs : List Loc), va_P D vwCl (sm_wM σ α) H → va_S A s.heap H locs → W p l e (headSpec wp_X12_start { frames := 3, cells := 0, slots := 0, locals := 67 }).room s m ([.ref (α.1 1), .int p1, .int p2] : List Value).toArray below meth c H locs 0 0 (MQ below (va_Qi K (sm_B sm_wM D α) A) ([.ref (α.1 1), .int p1, .int p2] : List Value).toArray s 0 0 A) (F0 m 0 ls []) from fun hP hS => h9 s.heap locs hP hS
  intro H locs hP hS
  refine lv_aload_n hx hb dX12_start_0 rfl (lv_at hl 0 rfl) ?_
  refine va_get (D := D) (ci := 12) (v := .ref (α.1 0)) (C := RX12) (T := TX12) (N := 42) hx hb hts in_X12 hown hK hP 1 (sm_gX12 σ α) rfl 0 (by decide) k_8 (fun _ h9 => h9) rfl dX12_start_1 ?_
  refine va_getN (D := D) (ci := 11) (v := .int (σ.1 4)) (C := RX11) (T := TX11) (N := 28) hx hb hts in_X11 hown hK hP 0 (sm_gX11 σ α) rfl 7 (by decide) (va_Nw.use rfl (hE.1 (.fieldLinkNest "SteadyMachineModel" 164 "SteadyMachineModel$Image" "there" "Z" "SteadyMachineModel") (by decide +kernel))) (fun _ h9 => h9) rfl dX12_start_4 ?_
  refine lv_if_ne (tgt := 12) hx hb dX12_start_7 (by decide) (fun h26 => ?_) (fun h26 => ?_)
  · replace hF := hF.1 h26
    refine lv_iload_n hx hb dX12_start_12 rfl (lv_at hl 1 rfl) ?_
    refine lv_sipush (v := 1024) hx hb dX12_start_13 (by decide) ?_
    refine lv_icmp_ge (tgt := 25) hx hb dX12_start_16 (by decide) (fun h27 => ?_) (fun h27 => ?_)
    · replace hF := hF.1 h27
      refine lv_iload_n hx hb dX12_start_25 rfl (lv_at hl 1 rfl) ?_
      refine lv_ldc (v := 60000) hx hb hown k_18 dX12_start_26 ?_
      refine lv_icmp_le (tgt := 36) hx hb dX12_start_28 (by decide) (fun h28 => ?_) (fun h28 => ?_)
      · replace hF := hF.1 h28
        refine lv_iload_n hx hb dX12_start_36 rfl (lv_at hl 1 rfl) ?_
        exact B37 σ p2 p1 hF H locs ls hP hS (lv_sub hl [0, 2] rfl)
      · replace hF := hF.2 h28
        refine lv_ldc (v := 60000) hx hb hown k_18 dX12_start_31 ?_
        refine lv_goto (tgt := 37) hx hb dX12_start_33 (by decide) ?_
        exact B37 σ p2 60000 hF H locs ls hP hS (lv_sub hl [0, 2] rfl)
    · replace hF := hF.2 h27
      refine lv_sipush (v := 1024) hx hb dX12_start_19 (by decide) ?_
      refine lv_goto (tgt := 37) hx hb dX12_start_22 (by decide) ?_
      exact B37 σ p2 1024 hF H locs ls hP hS (lv_sub hl [0, 2] rfl)
  · replace hF := hF.2 h26
    refine lv_iconst (v := 0) hx hb dX12_start_10 (by decide) ?_
    exact W.zret (v := 0) hx hb hr sm_z0.1 (fun t ht hW => ⟨⟨0, σ, rfl, hF, (by unfold sm_B; rw [ht]; exact hP)⟩, hS.F ht⟩) hS.2.2 dX12_start_11
theorem dX12_clean_0 : decode cX12_clean 0 = .ok (.aload_n 0, 1) := by decide +kernel
theorem dX12_clean_1 : decode cX12_clean 1 = .ok (.invokevirtual 288, 3) := by decide +kernel
theorem dX12_clean_4 : decode cX12_clean 4 = .ok (.istore_n 1, 1) := by decide +kernel
theorem dX12_clean_5 : decode cX12_clean 5 = .ok (.iconst 0, 1) := by decide +kernel
theorem dX12_clean_6 : decode cX12_clean 6 = .ok (.istore_n 2, 1) := by decide +kernel
theorem dX12_clean_7 : decode cX12_clean 7 = .ok (.iconst 0, 1) := by decide +kernel
theorem dX12_clean_8 : decode cX12_clean 8 = .ok (.istore_n 3, 1) := by decide +kernel
theorem dX12_clean_9 : decode cX12_clean 9 = .ok (.iload_n 3, 1) := by decide +kernel
theorem dX12_clean_10 : decode cX12_clean 10 = .ok (.aload_n 0, 1) := by decide +kernel
theorem dX12_clean_11 : decode cX12_clean 11 = .ok (.getfield 247, 3) := by decide +kernel
theorem dX12_clean_14 : decode cX12_clean 14 = .ok (.if_icmp .ge 37, 3) := by decide +kernel
theorem dX12_clean_17 : decode cX12_clean 17 = .ok (.aload_n 0, 1) := by decide +kernel
theorem dX12_clean_18 : decode cX12_clean 18 = .ok (.getfield 202, 3) := by decide +kernel
theorem dX12_clean_21 : decode cX12_clean 21 = .ok (.iload_n 3, 1) := by decide +kernel
theorem dX12_clean_22 : decode cX12_clean 22 = .ok (.iload_n 2, 1) := by decide +kernel
theorem dX12_clean_23 : decode cX12_clean 23 = .ok (.iastore, 1) := by decide +kernel
theorem dX12_clean_24 : decode cX12_clean 24 = .ok (.iload_n 2, 1) := by decide +kernel
theorem dX12_clean_25 : decode cX12_clean 25 = .ok (.aload_n 0, 1) := by decide +kernel
theorem dX12_clean_26 : decode cX12_clean 26 = .ok (.getfield 195, 3) := by decide +kernel
theorem dX12_clean_29 : decode cX12_clean 29 = .ok (.iload_n 3, 1) := by decide +kernel
theorem dX12_clean_30 : decode cX12_clean 30 = .ok (.iaload, 1) := by decide +kernel
theorem dX12_clean_31 : decode cX12_clean 31 = .ok (.aload_n 0, 1) := by decide +kernel
theorem dX12_clean_32 : decode cX12_clean 32 = .ok (.getfield 253, 3) := by decide +kernel
theorem dX12_clean_35 : decode cX12_clean 35 = .ok (.if_icmp .ne 7, 3) := by decide +kernel
theorem dX12_clean_38 : decode cX12_clean 38 = .ok (.iconst 1, 1) := by decide +kernel
theorem dX12_clean_39 : decode cX12_clean 39 = .ok (.goto 4, 3) := by decide +kernel
theorem dX12_clean_42 : decode cX12_clean 42 = .ok (.iconst 0, 1) := by decide +kernel
theorem dX12_clean_43 : decode cX12_clean 43 = .ok (.iadd, 1) := by decide +kernel
theorem dX12_clean_44 : decode cX12_clean 44 = .ok (.istore_n 2, 1) := by decide +kernel
theorem dX12_clean_45 : decode cX12_clean 45 = .ok (.iinc 3 1, 3) := by decide +kernel
theorem dX12_clean_48 : decode cX12_clean 48 = .ok (.goto (-39), 3) := by decide +kernel
theorem dX12_clean_51 : decode cX12_clean 51 = .ok (.iconst 0, 1) := by decide +kernel
theorem dX12_clean_52 : decode cX12_clean 52 = .ok (.istore_n 3, 1) := by decide +kernel
theorem dX12_clean_53 : decode cX12_clean 53 = .ok (.iload_n 3, 1) := by decide +kernel
theorem dX12_clean_54 : decode cX12_clean 54 = .ok (.bipush 12, 2) := by decide +kernel
theorem dX12_clean_56 : decode cX12_clean 56 = .ok (.aload_n 0, 1) := by decide +kernel
theorem dX12_clean_57 : decode cX12_clean 57 = .ok (.getfield 256, 3) := by decide +kernel
theorem dX12_clean_60 : decode cX12_clean 60 = .ok (.imul, 1) := by decide +kernel
theorem dX12_clean_61 : decode cX12_clean 61 = .ok (.if_icmp .ge 83, 3) := by decide +kernel
theorem dX12_clean_64 : decode cX12_clean 64 = .ok (.aload_n 0, 1) := by decide +kernel
theorem dX12_clean_65 : decode cX12_clean 65 = .ok (.getfield 10, 3) := by decide +kernel
theorem dX12_clean_68 : decode cX12_clean 68 = .ok (.getfield 27, 3) := by decide +kernel
theorem dX12_clean_71 : decode cX12_clean 71 = .ok (.aload_n 0, 1) := by decide +kernel
theorem dX12_clean_72 : decode cX12_clean 72 = .ok (.getfield 205, 3) := by decide +kernel
theorem dX12_clean_75 : decode cX12_clean 75 = .ok (.iload_n 3, 1) := by decide +kernel
theorem dX12_clean_76 : decode cX12_clean 76 = .ok (.bipush 12, 2) := by decide +kernel
theorem dX12_clean_78 : decode cX12_clean 78 = .ok (.idiv, 1) := by decide +kernel
theorem dX12_clean_79 : decode cX12_clean 79 = .ok (.iaload, 1) := by decide +kernel
theorem dX12_clean_80 : decode cX12_clean 80 = .ok (.iaload, 1) := by decide +kernel
theorem dX12_clean_81 : decode cX12_clean 81 = .ok (.aload_n 0, 1) := by decide +kernel
theorem dX12_clean_82 : decode cX12_clean 82 = .ok (.getfield 211, 3) := by decide +kernel
theorem dX12_clean_85 : decode cX12_clean 85 = .ok (.iload_n 3, 1) := by decide +kernel
theorem dX12_clean_86 : decode cX12_clean 86 = .ok (.bipush 12, 2) := by decide +kernel
theorem dX12_clean_88 : decode cX12_clean 88 = .ok (.idiv, 1) := by decide +kernel
theorem dX12_clean_89 : decode cX12_clean 89 = .ok (.iaload, 1) := by decide +kernel
theorem dX12_clean_90 : decode cX12_clean 90 = .ok (.iadd, 1) := by decide +kernel
theorem dX12_clean_91 : decode cX12_clean 91 = .ok (.istore 4, 2) := by decide +kernel
theorem dX12_clean_93 : decode cX12_clean 93 = .ok (.iload_n 3, 1) := by decide +kernel
theorem dX12_clean_94 : decode cX12_clean 94 = .ok (.bipush 12, 2) := by decide +kernel
theorem dX12_clean_96 : decode cX12_clean 96 = .ok (.irem, 1) := by decide +kernel
theorem dX12_clean_97 : decode cX12_clean 97 = .ok (.iload 4, 2) := by decide +kernel
theorem dX12_clean_99 : decode cX12_clean 99 = .ok (.if_icmp .ge 39, 3) := by decide +kernel
theorem dX12_clean_102 : decode cX12_clean 102 = .ok (.aload_n 0, 1) := by decide +kernel
theorem dX12_clean_103 : decode cX12_clean 103 = .ok (.getfield 218, 3) := by decide +kernel
theorem dX12_clean_106 : decode cX12_clean 106 = .ok (.iload_n 3, 1) := by decide +kernel
theorem dX12_clean_107 : decode cX12_clean 107 = .ok (.baload, 1) := by decide +kernel
theorem dX12_clean_108 : decode cX12_clean 108 = .ok (.ifCond .eq 30, 3) := by decide +kernel
theorem dX12_clean_111 : decode cX12_clean 111 = .ok (.aload_n 0, 1) := by decide +kernel
theorem dX12_clean_112 : decode cX12_clean 112 = .ok (.getfield 215, 3) := by decide +kernel
theorem dX12_clean_115 : decode cX12_clean 115 = .ok (.iload_n 3, 1) := by decide +kernel
theorem dX12_clean_116 : decode cX12_clean 116 = .ok (.iaload, 1) := by decide +kernel
theorem dX12_clean_117 : decode cX12_clean 117 = .ok (.iconst (-1), 1) := by decide +kernel
theorem dX12_clean_118 : decode cX12_clean 118 = .ok (.if_icmp .eq 20, 3) := by decide +kernel
theorem dX12_clean_121 : decode cX12_clean 121 = .ok (.aload_n 0, 1) := by decide +kernel
theorem dX12_clean_122 : decode cX12_clean 122 = .ok (.getfield 215, 3) := by decide +kernel
theorem dX12_clean_125 : decode cX12_clean 125 = .ok (.iload_n 3, 1) := by decide +kernel
theorem dX12_clean_126 : decode cX12_clean 126 = .ok (.aload_n 0, 1) := by decide +kernel
theorem dX12_clean_127 : decode cX12_clean 127 = .ok (.getfield 202, 3) := by decide +kernel
theorem dX12_clean_130 : decode cX12_clean 130 = .ok (.aload_n 0, 1) := by decide +kernel
theorem dX12_clean_131 : decode cX12_clean 131 = .ok (.getfield 215, 3) := by decide +kernel
theorem dX12_clean_134 : decode cX12_clean 134 = .ok (.iload_n 3, 1) := by decide +kernel
theorem dX12_clean_135 : decode cX12_clean 135 = .ok (.iaload, 1) := by decide +kernel
theorem dX12_clean_136 : decode cX12_clean 136 = .ok (.iaload, 1) := by decide +kernel
theorem dX12_clean_137 : decode cX12_clean 137 = .ok (.iastore, 1) := by decide +kernel
theorem dX12_clean_138 : decode cX12_clean 138 = .ok (.iinc 3 1, 3) := by decide +kernel
theorem dX12_clean_141 : decode cX12_clean 141 = .ok (.goto (-88), 3) := by decide +kernel
theorem dX12_clean_144 : decode cX12_clean 144 = .ok (.aload_n 0, 1) := by decide +kernel
theorem dX12_clean_145 : decode cX12_clean 145 = .ok (.aload_n 0, 1) := by decide +kernel
theorem dX12_clean_146 : decode cX12_clean 146 = .ok (.getfield 259, 3) := by decide +kernel
theorem dX12_clean_149 : decode cX12_clean 149 = .ok (.ifCond .eq 15, 3) := by decide +kernel
theorem dX12_clean_152 : decode cX12_clean 152 = .ok (.aload_n 0, 1) := by decide +kernel
theorem dX12_clean_153 : decode cX12_clean 153 = .ok (.getfield 202, 3) := by decide +kernel
theorem dX12_clean_156 : decode cX12_clean 156 = .ok (.aload_n 0, 1) := by decide +kernel
theorem dX12_clean_157 : decode cX12_clean 157 = .ok (.getfield 301, 3) := by decide +kernel
theorem dX12_clean_160 : decode cX12_clean 160 = .ok (.iaload, 1) := by decide +kernel
theorem dX12_clean_161 : decode cX12_clean 161 = .ok (.goto 7, 3) := by decide +kernel
theorem dX12_clean_164 : decode cX12_clean 164 = .ok (.aload_n 0, 1) := by decide +kernel
theorem dX12_clean_165 : decode cX12_clean 165 = .ok (.getfield 301, 3) := by decide +kernel
theorem dX12_clean_168 : decode cX12_clean 168 = .ok (.putfield 301, 3) := by decide +kernel
theorem dX12_clean_171 : decode cX12_clean 171 = .ok (.iconst 0, 1) := by decide +kernel
theorem dX12_clean_172 : decode cX12_clean 172 = .ok (.istore_n 3, 1) := by decide +kernel
theorem dX12_clean_173 : decode cX12_clean 173 = .ok (.iconst 0, 1) := by decide +kernel
theorem dX12_clean_174 : decode cX12_clean 174 = .ok (.istore 4, 2) := by decide +kernel
theorem dX12_clean_176 : decode cX12_clean 176 = .ok (.iload 4, 2) := by decide +kernel
theorem dX12_clean_178 : decode cX12_clean 178 = .ok (.aload_n 0, 1) := by decide +kernel
theorem dX12_clean_179 : decode cX12_clean 179 = .ok (.getfield 247, 3) := by decide +kernel
theorem dX12_clean_182 : decode cX12_clean 182 = .ok (.if_icmp .ge 197, 3) := by decide +kernel
theorem dX12_clean_185 : decode cX12_clean 185 = .ok (.aload_n 0, 1) := by decide +kernel
theorem dX12_clean_186 : decode cX12_clean 186 = .ok (.getfield 195, 3) := by decide +kernel
theorem dX12_clean_189 : decode cX12_clean 189 = .ok (.iload 4, 2) := by decide +kernel
theorem dX12_clean_191 : decode cX12_clean 191 = .ok (.iaload, 1) := by decide +kernel
theorem dX12_clean_192 : decode cX12_clean 192 = .ok (.aload_n 0, 1) := by decide +kernel
theorem dX12_clean_193 : decode cX12_clean 193 = .ok (.getfield 253, 3) := by decide +kernel
theorem dX12_clean_196 : decode cX12_clean 196 = .ok (.if_icmp .ne 177, 3) := by decide +kernel
theorem dX12_clean_199 : decode cX12_clean 199 = .ok (.aload_n 0, 1) := by decide +kernel
theorem dX12_clean_200 : decode cX12_clean 200 = .ok (.getfield 202, 3) := by decide +kernel
theorem dX12_clean_203 : decode cX12_clean 203 = .ok (.iload 4, 2) := by decide +kernel
theorem dX12_clean_205 : decode cX12_clean 205 = .ok (.iaload, 1) := by decide +kernel
theorem dX12_clean_206 : decode cX12_clean 206 = .ok (.istore 5, 2) := by decide +kernel
theorem dX12_clean_208 : decode cX12_clean 208 = .ok (.aload_n 0, 1) := by decide +kernel
theorem dX12_clean_209 : decode cX12_clean 209 = .ok (.iload 4, 2) := by decide +kernel
theorem dX12_clean_211 : decode cX12_clean 211 = .ok (.invokevirtual 304, 3) := by decide +kernel
theorem dX12_clean_214 : decode cX12_clean 214 = .ok (.iconst 1, 1) := by decide +kernel
theorem dX12_clean_215 : decode cX12_clean 215 = .ok (.isub, 1) := by decide +kernel
theorem dX12_clean_216 : decode cX12_clean 216 = .ok (.istore 6, 2) := by decide +kernel
theorem dX12_clean_218 : decode cX12_clean 218 = .ok (.aload_n 0, 1) := by decide +kernel
theorem dX12_clean_219 : decode cX12_clean 219 = .ok (.getfield 192, 3) := by decide +kernel
theorem dX12_clean_222 : decode cX12_clean 222 = .ok (.iload 4, 2) := by decide +kernel
theorem dX12_clean_224 : decode cX12_clean 224 = .ok (.iaload, 1) := by decide +kernel
theorem dX12_clean_225 : decode cX12_clean 225 = .ok (.istore 7, 2) := by decide +kernel
theorem dX12_clean_227 : decode cX12_clean 227 = .ok (.iconst 0, 1) := by decide +kernel
theorem dX12_clean_228 : decode cX12_clean 228 = .ok (.istore 8, 2) := by decide +kernel
theorem dX12_clean_230 : decode cX12_clean 230 = .ok (.iload 8, 2) := by decide +kernel
theorem dX12_clean_232 : decode cX12_clean 232 = .ok (.iload 6, 2) := by decide +kernel
theorem dX12_clean_234 : decode cX12_clean 234 = .ok (.if_icmp .ge 59, 3) := by decide +kernel
theorem dX12_clean_237 : decode cX12_clean 237 = .ok (.aload_n 0, 1) := by decide +kernel
theorem dX12_clean_238 : decode cX12_clean 238 = .ok (.getfield 199, 3) := by decide +kernel
theorem dX12_clean_241 : decode cX12_clean 241 = .ok (.iload 7, 2) := by decide +kernel
theorem dX12_clean_243 : decode cX12_clean 243 = .ok (.iload 8, 2) := by decide +kernel
theorem dX12_clean_245 : decode cX12_clean 245 = .ok (.iadd, 1) := by decide +kernel
theorem dX12_clean_246 : decode cX12_clean 246 = .ok (.iaload, 1) := by decide +kernel
theorem dX12_clean_247 : decode cX12_clean 247 = .ok (.istore 9, 2) := by decide +kernel
theorem dX12_clean_249 : decode cX12_clean 249 = .ok (.aload_n 0, 1) := by decide +kernel
theorem dX12_clean_250 : decode cX12_clean 250 = .ok (.getfield 199, 3) := by decide +kernel
theorem dX12_clean_253 : decode cX12_clean 253 = .ok (.iload_n 3, 1) := by decide +kernel
theorem dX12_clean_254 : decode cX12_clean 254 = .ok (.iload 8, 2) := by decide +kernel
theorem dX12_clean_256 : decode cX12_clean 256 = .ok (.iadd, 1) := by decide +kernel
theorem dX12_clean_257 : decode cX12_clean 257 = .ok (.aload_n 0, 1) := by decide +kernel
theorem dX12_clean_258 : decode cX12_clean 258 = .ok (.iload 4, 2) := by decide +kernel
theorem dX12_clean_260 : decode cX12_clean 260 = .ok (.iload 8, 2) := by decide +kernel
theorem dX12_clean_262 : decode cX12_clean 262 = .ok (.invokevirtual 307, 3) := by decide +kernel
theorem dX12_clean_265 : decode cX12_clean 265 = .ok (.ifCond .eq 19, 3) := by decide +kernel
theorem dX12_clean_268 : decode cX12_clean 268 = .ok (.iload 9, 2) := by decide +kernel
theorem dX12_clean_270 : decode cX12_clean 270 = .ok (.iconst (-1), 1) := by decide +kernel
theorem dX12_clean_271 : decode cX12_clean 271 = .ok (.if_icmp .eq 13, 3) := by decide +kernel
theorem dX12_clean_274 : decode cX12_clean 274 = .ok (.aload_n 0, 1) := by decide +kernel
theorem dX12_clean_275 : decode cX12_clean 275 = .ok (.getfield 202, 3) := by decide +kernel
theorem dX12_clean_278 : decode cX12_clean 278 = .ok (.iload 9, 2) := by decide +kernel
theorem dX12_clean_280 : decode cX12_clean 280 = .ok (.iaload, 1) := by decide +kernel
theorem dX12_clean_281 : decode cX12_clean 281 = .ok (.goto 5, 3) := by decide +kernel
theorem dX12_clean_284 : decode cX12_clean 284 = .ok (.iload 9, 2) := by decide +kernel
theorem dX12_clean_286 : decode cX12_clean 286 = .ok (.iastore, 1) := by decide +kernel
theorem dX12_clean_287 : decode cX12_clean 287 = .ok (.iinc 8 1, 3) := by decide +kernel
theorem dX12_clean_290 : decode cX12_clean 290 = .ok (.goto (-60), 3) := by decide +kernel
theorem dX12_clean_293 : decode cX12_clean 293 = .ok (.aload_n 0, 1) := by decide +kernel
theorem dX12_clean_294 : decode cX12_clean 294 = .ok (.getfield 180, 3) := by decide +kernel
theorem dX12_clean_297 : decode cX12_clean 297 = .ok (.iload 5, 2) := by decide +kernel
theorem dX12_clean_299 : decode cX12_clean 299 = .ok (.aload_n 0, 1) := by decide +kernel
theorem dX12_clean_300 : decode cX12_clean 300 = .ok (.getfield 180, 3) := by decide +kernel
theorem dX12_clean_303 : decode cX12_clean 303 = .ok (.iload 4, 2) := by decide +kernel
theorem dX12_clean_305 : decode cX12_clean 305 = .ok (.baload, 1) := by decide +kernel
theorem dX12_clean_306 : decode cX12_clean 306 = .ok (.bastore, 1) := by decide +kernel
theorem dX12_clean_307 : decode cX12_clean 307 = .ok (.aload_n 0, 1) := by decide +kernel
theorem dX12_clean_308 : decode cX12_clean 308 = .ok (.getfield 183, 3) := by decide +kernel
theorem dX12_clean_311 : decode cX12_clean 311 = .ok (.iload 5, 2) := by decide +kernel
theorem dX12_clean_313 : decode cX12_clean 313 = .ok (.aload_n 0, 1) := by decide +kernel
theorem dX12_clean_314 : decode cX12_clean 314 = .ok (.getfield 183, 3) := by decide +kernel
theorem dX12_clean_317 : decode cX12_clean 317 = .ok (.iload 4, 2) := by decide +kernel
theorem dX12_clean_319 : decode cX12_clean 319 = .ok (.iaload, 1) := by decide +kernel
theorem dX12_clean_320 : decode cX12_clean 320 = .ok (.iastore, 1) := by decide +kernel
theorem dX12_clean_321 : decode cX12_clean 321 = .ok (.aload_n 0, 1) := by decide +kernel
theorem dX12_clean_322 : decode cX12_clean 322 = .ok (.getfield 186, 3) := by decide +kernel
theorem dX12_clean_325 : decode cX12_clean 325 = .ok (.iload 5, 2) := by decide +kernel
theorem dX12_clean_327 : decode cX12_clean 327 = .ok (.aload_n 0, 1) := by decide +kernel
theorem dX12_clean_328 : decode cX12_clean 328 = .ok (.getfield 186, 3) := by decide +kernel
theorem dX12_clean_331 : decode cX12_clean 331 = .ok (.iload 4, 2) := by decide +kernel
theorem dX12_clean_333 : decode cX12_clean 333 = .ok (.baload, 1) := by decide +kernel
theorem dX12_clean_334 : decode cX12_clean 334 = .ok (.bastore, 1) := by decide +kernel
theorem dX12_clean_335 : decode cX12_clean 335 = .ok (.aload_n 0, 1) := by decide +kernel
theorem dX12_clean_336 : decode cX12_clean 336 = .ok (.getfield 189, 3) := by decide +kernel
theorem dX12_clean_339 : decode cX12_clean 339 = .ok (.iload 5, 2) := by decide +kernel
theorem dX12_clean_341 : decode cX12_clean 341 = .ok (.aload_n 0, 1) := by decide +kernel
theorem dX12_clean_342 : decode cX12_clean 342 = .ok (.getfield 189, 3) := by decide +kernel
theorem dX12_clean_345 : decode cX12_clean 345 = .ok (.iload 4, 2) := by decide +kernel
theorem dX12_clean_347 : decode cX12_clean 347 = .ok (.baload, 1) := by decide +kernel
theorem dX12_clean_348 : decode cX12_clean 348 = .ok (.bastore, 1) := by decide +kernel
theorem dX12_clean_349 : decode cX12_clean 349 = .ok (.aload_n 0, 1) := by decide +kernel
theorem dX12_clean_350 : decode cX12_clean 350 = .ok (.getfield 192, 3) := by decide +kernel
theorem dX12_clean_353 : decode cX12_clean 353 = .ok (.iload 5, 2) := by decide +kernel
theorem dX12_clean_355 : decode cX12_clean 355 = .ok (.iload_n 3, 1) := by decide +kernel
theorem dX12_clean_356 : decode cX12_clean 356 = .ok (.iastore, 1) := by decide +kernel
theorem dX12_clean_357 : decode cX12_clean 357 = .ok (.aload_n 0, 1) := by decide +kernel
theorem dX12_clean_358 : decode cX12_clean 358 = .ok (.getfield 195, 3) := by decide +kernel
theorem dX12_clean_361 : decode cX12_clean 361 = .ok (.iload 5, 2) := by decide +kernel
theorem dX12_clean_363 : decode cX12_clean 363 = .ok (.aload_n 0, 1) := by decide +kernel
theorem dX12_clean_364 : decode cX12_clean 364 = .ok (.getfield 253, 3) := by decide +kernel
theorem dX12_clean_367 : decode cX12_clean 367 = .ok (.iastore, 1) := by decide +kernel
theorem dX12_clean_368 : decode cX12_clean 368 = .ok (.iload_n 3, 1) := by decide +kernel
theorem dX12_clean_369 : decode cX12_clean 369 = .ok (.iload 6, 2) := by decide +kernel
theorem dX12_clean_371 : decode cX12_clean 371 = .ok (.iadd, 1) := by decide +kernel
theorem dX12_clean_372 : decode cX12_clean 372 = .ok (.istore_n 3, 1) := by decide +kernel
theorem dX12_clean_373 : decode cX12_clean 373 = .ok (.iinc 4 1, 3) := by decide +kernel
theorem dX12_clean_376 : decode cX12_clean 376 = .ok (.goto (-200), 3) := by decide +kernel
theorem dX12_clean_379 : decode cX12_clean 379 = .ok (.iload_n 2, 1) := by decide +kernel
theorem dX12_clean_380 : decode cX12_clean 380 = .ok (.istore 4, 2) := by decide +kernel
theorem dX12_clean_382 : decode cX12_clean 382 = .ok (.iload 4, 2) := by decide +kernel
theorem dX12_clean_384 : decode cX12_clean 384 = .ok (.aload_n 0, 1) := by decide +kernel
theorem dX12_clean_385 : decode cX12_clean 385 = .ok (.getfield 247, 3) := by decide +kernel
theorem dX12_clean_388 : decode cX12_clean 388 = .ok (.if_icmp .ge 17, 3) := by decide +kernel
theorem dX12_clean_391 : decode cX12_clean 391 = .ok (.aload_n 0, 1) := by decide +kernel
theorem dX12_clean_392 : decode cX12_clean 392 = .ok (.getfield 195, 3) := by decide +kernel
theorem dX12_clean_395 : decode cX12_clean 395 = .ok (.iload 4, 2) := by decide +kernel
theorem dX12_clean_397 : decode cX12_clean 397 = .ok (.iconst 0, 1) := by decide +kernel
theorem dX12_clean_398 : decode cX12_clean 398 = .ok (.iastore, 1) := by decide +kernel
theorem dX12_clean_399 : decode cX12_clean 399 = .ok (.iinc 4 1, 3) := by decide +kernel
theorem dX12_clean_402 : decode cX12_clean 402 = .ok (.goto (-20), 3) := by decide +kernel
theorem dX12_clean_405 : decode cX12_clean 405 = .ok (.aload_n 0, 1) := by decide +kernel
theorem dX12_clean_406 : decode cX12_clean 406 = .ok (.iload_n 2, 1) := by decide +kernel
theorem dX12_clean_407 : decode cX12_clean 407 = .ok (.putfield 247, 3) := by decide +kernel
theorem dX12_clean_410 : decode cX12_clean 410 = .ok (.aload_n 0, 1) := by decide +kernel
theorem dX12_clean_411 : decode cX12_clean 411 = .ok (.iload_n 3, 1) := by decide +kernel
theorem dX12_clean_412 : decode cX12_clean 412 = .ok (.putfield 250, 3) := by decide +kernel
theorem dX12_clean_415 : decode cX12_clean 415 = .ok (.return_, 1) := by decide +kernel
def wp_X12_clean : List Cond := .code yX12_clean cX12_clean 10 none :: ((((([.fieldLink RX12 247 "SteadyMachineModel" "things" "I", .fieldLink RX12 250 "SteadyMachineModel" "used" "I", .fieldLink RX12 195 "SteadyMachineModel" "marked" "[I", .fieldLink RX12 180 "SteadyMachineModel" "sorts" "[B", .fieldLink RX12 183 "SteadyMachineModel" "infos" "[I", .fieldLink RX12 186 "SteadyMachineModel" "refs" "[Z", .fieldLink RX12 189 "SteadyMachineModel" "itemTypes" "[B", .fieldLink RX12 192 "SteadyMachineModel" "begins" "[I", .fieldLink RX12 253 "SteadyMachineModel" "stamp" "I", .fieldLink RX12 199 "SteadyMachineModel" "cells" "[I", .fieldLink RX12 202 "SteadyMachineModel" "work" "[I", .fieldLink RX12 301 "SteadyMachineModel" "flying" "I", .fieldLink RX12 256 "SteadyMachineModel" "frames" "I", .fieldLink RX12 259 "SteadyMachineModel" "flies" "Z", .fieldLink RX12 10 "SteadyMachineModel" "image" "LSteadyMachineModel$Image;", .fieldLink RX12 205 "SteadyMachineModel" "methodOf" "[I", .fieldLink RX12 211 "SteadyMachineModel" "highOf" "[I", .fieldLink RX12 218 "SteadyMachineModel" "isThing" "[Z", .fieldLink RX12 215 "SteadyMachineModel" "valueAt" "[I"] ++ (wsV RX12 307 RX12 yX12_isPart wp_X12_isPart)) ++ (wsV RX12 304 RX12 yX12_cellsOf wp_X12_cellsOf)) ++ (wsV RX12 288 RX12 yX12_reach wp_X12_reach)) ++ wsX110) ++ wsX120)
theorem wq_X12_clean : wp_X12_clean.all goodWord = true := wa_c rfl (wa_a (wa_a (wa_a (wa_a (wa_a (by decide +kernel) (wa_V wq_X12_isPart)) (wa_V wq_X12_cellsOf)) (wa_V wq_X12_reach)) uq_X11) uq_X12)
set_option maxRecDepth 200000 in
theorem wt_X12_clean : GoodIn lw_tbl wp_X12_clean := wm_c (List.mem_of_getElem? (i := 1724) rfl) rfl (wm_a (wm_a (wm_a (wm_a (wm_a (goodIn_r _ [1497, 1505, 1503, 1498, 1499, 1500, 1501, 1502, 1504, 1506, 1507, 1515, 1508, 1514, 1490, 1509, 1511, 1513, 1512] (by decide +kernel) (by decide +kernel)) (wm_a (goodIn_r _ [1650, 1652, 107, 147] (by decide +kernel) (by decide +kernel)) wt_X12_isPart)) (wm_a (goodIn_r _ [1646, 1648, 106, 147] (by decide +kernel) (by decide +kernel)) wt_X12_cellsOf)) (wm_a (goodIn_r _ [1638, 1640, 104, 147] (by decide +kernel) (by decide +kernel)) wt_X12_reach)) ut_X11) ut_X12)
theorem wg_X12_clean_X12_isPart_307 : GoodIn wp_X12_clean (wsV RX12 307 RX12 yX12_isPart wp_X12_isPart) := goodIn_sub (fun w h => List.mem_cons_of_mem _ (List.mem_append_left _ (List.mem_append_left _ (List.mem_append_left _ (List.mem_append_left _ (List.mem_append_right _ h)))))) (wa_V wq_X12_isPart)
theorem wg_X12_clean_X12_cellsOf_304 : GoodIn wp_X12_clean (wsV RX12 304 RX12 yX12_cellsOf wp_X12_cellsOf) := goodIn_sub (fun w h => List.mem_cons_of_mem _ (List.mem_append_left _ (List.mem_append_left _ (List.mem_append_left _ (List.mem_append_right _ h))))) (wa_V wq_X12_cellsOf)
theorem wg_X12_clean_X12_reach_288 : GoodIn wp_X12_clean (wsV RX12 288 RX12 yX12_reach wp_X12_reach) := goodIn_sub (fun w h => List.mem_cons_of_mem _ (List.mem_append_left _ (List.mem_append_left _ (List.mem_append_right _ h)))) (wa_V wq_X12_reach)
theorem wi_X12_clean_X11 : ∀ w ∈ wsX110, w ∈ wp_X12_clean := fun w h => List.mem_cons_of_mem _ (List.mem_append_left _ (List.mem_append_right _ h))
theorem wi_X12_clean_X12 : ∀ w ∈ wsX120, w ∈ wp_X12_clean := fun w h => List.mem_cons_of_mem _ (List.mem_append_right _ h)
set_option maxHeartbeats 4000000 in
set_option maxRecDepth 100000 in
theorem c_X12_clean (l : Launch) (D : va_G) (sz t0 : Nat) (σ : sm_S) (α : sm_A) (K : sm_S → Prop) (hF : mp_X12_clean σ K) : Met l yX12_clean wp_X12_clean { frames := 2, cells := 0, slots := 0, locals := 46 } (sm_P sm_wM sm_tM 40 D sz t0 σ α [.ref (α.1 1)]) (va_Qv K (sm_B sm_wM D α) (sm_a α 40 sz)) 0 0 (sm_a α 40 sz) := by
  refine Met.ofW (cc := cX12_clean) (maxL := 10) (ret := none) (by decide) rfl ?_
  intro p e s m args below meth c s₁ B hml hv
  obtain ⟨rfl, hsz, hP, hK, hD0, hE⟩ := hv
  have hx := B.exec
  have hb := B.bytes
  have hr := B.returns
  have hts := atoms_spec (ws := wp_X12_clean) B.pre
  have hown : s.vm.findClass RX12 = some m.cls := findClass_of_methodNamed B.named
  have hlocks := B.notSynchronized
  subst hsz
  have hD : sm_D (sm_a α 40 s.heap.size) α 40 := hD0.own
  have hA : ∀ q : Nat, s.heap.size ≤ q → sm_a α 40 s.heap.size q := fun q h => Or.inr h
  generalize hAe : sm_a α 40 s.heap.size = A at hD hA hE ⊢
  have hS : va_S A s.heap s.heap [] := va_S.rf
  have in_X11 : ∀ w ∈ wsX110, w ∈ wp_X12_clean := wi_X12_clean_X11
  have in_X12 : ∀ w ∈ wsX120, w ∈ wp_X12_clean := wi_X12_clean_X12
  have k_0 := hts (.fieldLink RX12 247 "SteadyMachineModel" "things" "I") (by decide +kernel)
  have k_1 := hts (.fieldLink RX12 250 "SteadyMachineModel" "used" "I") (by decide +kernel)
  have k_2 := hts (.fieldLink RX12 195 "SteadyMachineModel" "marked" "[I") (by decide +kernel)
  have k_3 := hts (.fieldLink RX12 180 "SteadyMachineModel" "sorts" "[B") (by decide +kernel)
  have k_4 := hts (.fieldLink RX12 183 "SteadyMachineModel" "infos" "[I") (by decide +kernel)
  have k_5 := hts (.fieldLink RX12 186 "SteadyMachineModel" "refs" "[Z") (by decide +kernel)
  have k_6 := hts (.fieldLink RX12 189 "SteadyMachineModel" "itemTypes" "[B") (by decide +kernel)
  have k_7 := hts (.fieldLink RX12 192 "SteadyMachineModel" "begins" "[I") (by decide +kernel)
  have k_8 := hts (.fieldLink RX12 253 "SteadyMachineModel" "stamp" "I") (by decide +kernel)
  have k_9 := hts (.fieldLink RX12 199 "SteadyMachineModel" "cells" "[I") (by decide +kernel)
  have k_10 := hts (.fieldLink RX12 202 "SteadyMachineModel" "work" "[I") (by decide +kernel)
  have k_11 := hts (.fieldLink RX12 301 "SteadyMachineModel" "flying" "I") (by decide +kernel)
  have k_12 := hts (.fieldLink RX12 256 "SteadyMachineModel" "frames" "I") (by decide +kernel)
  have k_13 := hts (.fieldLink RX12 259 "SteadyMachineModel" "flies" "Z") (by decide +kernel)
  have k_14 := hts (.fieldLink RX12 10 "SteadyMachineModel" "image" "LSteadyMachineModel$Image;") (by decide +kernel)
  have k_15 := hts (.fieldLink RX12 205 "SteadyMachineModel" "methodOf" "[I") (by decide +kernel)
  have k_16 := hts (.fieldLink RX12 211 "SteadyMachineModel" "highOf" "[I") (by decide +kernel)
  have k_17 := hts (.fieldLink RX12 218 "SteadyMachineModel" "isThing" "[Z") (by decide +kernel)
  have k_18 := hts (.fieldLink RX12 215 "SteadyMachineModel" "valueAt" "[I") (by decide +kernel)
  have hl := lv_entry ([.ref (α.1 1)]) (n := 10) (Nat.le_of_ble_eq_true rfl)
  rw [lg_entry_eq]
  generalize (lg_sl ([.ref (α.1 1)]) ++ List.replicate (10 - (lg_sl ([.ref (α.1 1)])).length) Slot.unset).toArray = ls at hl ⊢
  have hl : lv_has ls 10 [(0, .ref (α.1 1))] := hl
  have B382 : ∀ (n : Nat) (σ : sm_S) (x2 : Int32) (x3 : Int32) (x4 : Int32), mp_X12_clean_382 K n σ x2 x3 x4 → sm_J p l e (headSpec wp_X12_clean { frames := 2, cells := 0, slots := 0, locals := 46 }).room s m ([.ref (α.1 1)] : List Value).toArray below meth c (MQ below (va_Qv K (sm_B sm_wM D α) A) ([.ref (α.1 1)] : List Value).toArray s 0 0 A) D A 10 (sm_wM σ α) 382 [(0, .ref (α.1 1)), (2, .int x2), (3, .int x3), (4, .int x4)] [] := by
    intro n382
    induction n382 with
    | zero =>
      intro σ x2 x3 x4 hF
      exact hF.elim
    | succ n382 ih382 =>
      intro σ x2 x3 x4 hF H locs ls hP hS hl
      unfold mp_X12_clean_382 at hF
      refine lv_iload hx hb dX12_clean_382 (lv_at hl 3 rfl) ?_
      refine lv_aload_n hx hb dX12_clean_384 rfl (lv_at hl 0 rfl) ?_
      refine va_get (D := D) (ci := 12) (v := .int (σ.1 11)) (C := RX12) (T := TX12) (N := 42) hx hb hts in_X12 hown hK hP 1 (sm_gX12 σ α) rfl 7 (by decide) k_0 (fun _ h9 => h9) rfl dX12_clean_385 ?_
      refine lv_icmp_ge (tgt := 405) hx hb dX12_clean_388 (by decide) (fun h1 => ?_) (fun h1 => ?_)
      · replace hF := hF.1 h1
        refine lv_aload_n hx hb dX12_clean_405 rfl (lv_at hl 0 rfl) ?_
        refine lv_iload_n hx hb dX12_clean_406 rfl (lv_at hl 1 rfl) ?_
        refine va_put (D := D) (ci := 12) (v := .int x2) (ty := .int) (C := RX12) (T := TX12) (N := 42) hx hb hts in_X12 tyX12 tyX12_ok nmX12 hown hK hP (hD.to (sm_wM_m _ _)) hS 1 (sm_gX12 σ α) rfl 7 (by decide) k_0 (fun _ h9 => h9) rfl (by decide +kernel) rfl rfl (Nat.le_of_ble_eq_true rfl) dX12_clean_407 (fun H locs hP _ hS => ?_)
        rw [sm_iM11] at hP
        obtain ⟨σ2, eσ2⟩ : ∃ x : sm_S, x = sm_i σ 11 x2 := ⟨_, rfl⟩
        replace hF := hF σ2 eσ2
        rw [← eσ2] at hP
        refine lv_aload_n hx hb dX12_clean_410 rfl (lv_at hl 0 rfl) ?_
        refine lv_iload_n hx hb dX12_clean_411 rfl (lv_at hl 2 rfl) ?_
        refine va_put (D := D) (ci := 12) (v := .int x3) (ty := .int) (C := RX12) (T := TX12) (N := 42) hx hb hts in_X12 tyX12 tyX12_ok nmX12 hown hK hP (hD.to (sm_wM_m _ _)) hS 1 (sm_gX12 σ2 α) rfl 15 (by decide) k_1 (fun _ h9 => h9) rfl (by decide +kernel) rfl rfl (Nat.le_of_ble_eq_true rfl) dX12_clean_412 (fun H locs hP _ hS => ?_)
        rw [sm_iM13] at hP
        obtain ⟨σ3, eσ3⟩ : ∃ x : sm_S, x = sm_i σ2 13 x3 := ⟨_, rfl⟩
        replace hF := hF σ3 eσ3
        rw [← eσ3] at hP
        exact W.vret hx hb hr (fun t ht hW => ⟨⟨σ3, rfl, hF, (by unfold sm_B; rw [ht]; exact hP)⟩, hS.F ht⟩) hS.2.2 dX12_clean_415
      · replace hF := hF.2 h1
        refine lv_aload_n hx hb dX12_clean_391 rfl (lv_at hl 0 rfl) ?_
        refine va_get (D := D) (ci := 12) (v := .ref (α.1 30)) (C := RX12) (T := TX12) (N := 42) hx hb hts in_X12 hown hK hP 1 (sm_gX12 σ α) rfl 13 (by decide) k_2 (fun _ h9 => h9) rfl dX12_clean_392 ?_
        refine lv_iload hx hb dX12_clean_395 (lv_at hl 3 rfl) ?_
        refine lv_iconst (v := 0) hx hb dX12_clean_397 (by decide) ?_
        obtain ⟨h4, hF⟩ := hF
        refine va_iast (n := (σ.2.2.1 30)) (f := (σ.2.2.2.1 30)) (x := 0) hx hb hK hP (hD.to (sm_wM_m _ _)) hS 30 28 (sm_aM30 σ α) (sm_yM30 α) h4 dX12_clean_398 (fun H locs hP _ hS => ?_)
        rw [sm_rM30] at hP
        obtain ⟨σ5, eσ5⟩ : ∃ x : sm_S, x = sm_r σ 30 (upd (σ.2.2.2.1 30) x4.toNatClampNeg 0) := ⟨_, rfl⟩
        replace hF := hF σ5 eσ5
        rw [← eσ5] at hP
        obtain ⟨v6, ev6⟩ : ∃ y : Int32, y = x4 + 1 := ⟨_, rfl⟩
        replace hF := hF v6 ev6
        refine lv_iinc (v := v6) (lv' := [(4, .int v6), (0, .ref (α.1 1)), (2, .int x2), (3, .int x3)]) hx hb dX12_clean_399 hl (k := 3) rfl (by rw [ev6]; rfl) (by decide) rfl (fun ls hl => ?_)
        refine lv_goto (tgt := 382) hx hb dX12_clean_402 (by decide) ?_
        exact ih382 σ5 x2 x3 v6 hF H locs ls hP hS (lv_sub hl [1, 2, 3, 0] rfl)
  have B373 : ∀ (L176 : sm_S → Int32 → Int32 → Int32 → Prop) (hL176 : ∀ (σ : sm_S) (x2 : Int32) (x3 : Int32) (x4 : Int32), L176 σ x2 x3 x4 → sm_J p l e (headSpec wp_X12_clean { frames := 2, cells := 0, slots := 0, locals := 46 }).room s m ([.ref (α.1 1)] : List Value).toArray below meth c (MQ below (va_Qv K (sm_B sm_wM D α) A) ([.ref (α.1 1)] : List Value).toArray s 0 0 A) D A 10 (sm_wM σ α) 176 [(0, .ref (α.1 1)), (2, .int x2), (3, .int x3), (4, .int x4)] []) (σ : sm_S) (x2 : Int32) (x3 : Int32) (x4 : Int32), mp_X12_clean_373 L176 K σ x2 x3 x4 → sm_J p l e (headSpec wp_X12_clean { frames := 2, cells := 0, slots := 0, locals := 46 }).room s m ([.ref (α.1 1)] : List Value).toArray below meth c (MQ below (va_Qv K (sm_B sm_wM D α) A) ([.ref (α.1 1)] : List Value).toArray s 0 0 A) D A 10 (sm_wM σ α) 373 [(0, .ref (α.1 1)), (2, .int x2), (3, .int x3), (4, .int x4)] [] := by
    intro L176 hL176 σ x2 x3 x4 hF H locs ls hP hS hl
    unfold mp_X12_clean_373 at hF
    obtain ⟨v7, ev7⟩ : ∃ y : Int32, y = x4 + 1 := ⟨_, rfl⟩
    replace hF := hF v7 ev7
    refine lv_iinc (v := v7) (lv' := [(4, .int v7), (0, .ref (α.1 1)), (2, .int x2), (3, .int x3)]) hx hb dX12_clean_373 hl (k := 3) rfl (by rw [ev7]; rfl) (by decide) rfl (fun ls hl => ?_)
    refine lv_goto (tgt := 176) hx hb dX12_clean_376 (by decide) ?_
    exact hL176 σ x2 x3 v7 hF H locs ls hP hS (lv_sub hl [1, 2, 3, 0] rfl)
  have B286 : ∀ (L176 : sm_S → Int32 → Int32 → Int32 → Prop) (hL176 : ∀ (σ : sm_S) (x2 : Int32) (x3 : Int32) (x4 : Int32), L176 σ x2 x3 x4 → sm_J p l e (headSpec wp_X12_clean { frames := 2, cells := 0, slots := 0, locals := 46 }).room s m ([.ref (α.1 1)] : List Value).toArray below meth c (MQ below (va_Qv K (sm_B sm_wM D α) A) ([.ref (α.1 1)] : List Value).toArray s 0 0 A) D A 10 (sm_wM σ α) 176 [(0, .ref (α.1 1)), (2, .int x2), (3, .int x3), (4, .int x4)] []) (L230 : sm_S → Int32 → Int32 → Int32 → Int32 → Int32 → Int32 → Int32 → Prop) (hL230 : ∀ (σ : sm_S) (x2 : Int32) (x3 : Int32) (x4 : Int32) (x5 : Int32) (x6 : Int32) (x7 : Int32) (x8 : Int32), L230 σ x2 x3 x4 x5 x6 x7 x8 → sm_J p l e (headSpec wp_X12_clean { frames := 2, cells := 0, slots := 0, locals := 46 }).room s m ([.ref (α.1 1)] : List Value).toArray below meth c (MQ below (va_Qv K (sm_B sm_wM D α) A) ([.ref (α.1 1)] : List Value).toArray s 0 0 A) D A 10 (sm_wM σ α) 230 [(0, .ref (α.1 1)), (2, .int x2), (3, .int x3), (4, .int x4), (5, .int x5), (6, .int x6), (7, .int x7), (8, .int x8)] []) (σ : sm_S) (x2 : Int32) (x3 : Int32) (x4 : Int32) (x5 : Int32) (x6 : Int32) (x7 : Int32) (x8 : Int32) (y1 : Int32) (y2 : Int32), mp_X12_clean_286 L176 L230 K σ x2 x3 x4 x5 x6 x7 x8 y1 y2 → sm_J p l e (headSpec wp_X12_clean { frames := 2, cells := 0, slots := 0, locals := 46 }).room s m ([.ref (α.1 1)] : List Value).toArray below meth c (MQ below (va_Qv K (sm_B sm_wM D α) A) ([.ref (α.1 1)] : List Value).toArray s 0 0 A) D A 10 (sm_wM σ α) 286 [(0, .ref (α.1 1)), (2, .int x2), (3, .int x3), (4, .int x4), (5, .int x5), (6, .int x6), (7, .int x7), (8, .int x8)] [.int y2, .int y1, .ref (α.1 31)] := by
    intro L176 hL176 L230 hL230 σ x2 x3 x4 x5 x6 x7 x8 y1 y2 hF H locs ls hP hS hl
    unfold mp_X12_clean_286 at hF
    obtain ⟨h8, hF⟩ := hF
    refine va_iast (n := (σ.2.2.1 31)) (f := (σ.2.2.2.1 31)) (x := y2) hx hb hK hP (hD.to (sm_wM_m _ _)) hS 31 29 (sm_aM31 σ α) (sm_yM31 α) h8 dX12_clean_286 (fun H locs hP _ hS => ?_)
    rw [sm_rM31] at hP
    obtain ⟨σ9, eσ9⟩ : ∃ x : sm_S, x = sm_r σ 31 (upd (σ.2.2.2.1 31) y1.toNatClampNeg y2) := ⟨_, rfl⟩
    replace hF := hF σ9 eσ9
    rw [← eσ9] at hP
    obtain ⟨v10, ev10⟩ : ∃ y : Int32, y = x8 + 1 := ⟨_, rfl⟩
    replace hF := hF v10 ev10
    refine lv_iinc (v := v10) (lv' := [(8, .int v10), (0, .ref (α.1 1)), (2, .int x2), (3, .int x3), (4, .int x4), (5, .int x5), (6, .int x6), (7, .int x7)]) hx hb dX12_clean_287 hl (k := 7) rfl (by rw [ev10]; rfl) (by decide) rfl (fun ls hl => ?_)
    refine lv_goto (tgt := 230) hx hb dX12_clean_290 (by decide) ?_
    exact hL230 σ9 x2 x3 x4 x5 x6 x7 v10 hF H locs ls hP hS (lv_sub hl [1, 2, 3, 4, 5, 6, 7, 0] rfl)
  have B284 : ∀ (L176 : sm_S → Int32 → Int32 → Int32 → Prop) (hL176 : ∀ (σ : sm_S) (x2 : Int32) (x3 : Int32) (x4 : Int32), L176 σ x2 x3 x4 → sm_J p l e (headSpec wp_X12_clean { frames := 2, cells := 0, slots := 0, locals := 46 }).room s m ([.ref (α.1 1)] : List Value).toArray below meth c (MQ below (va_Qv K (sm_B sm_wM D α) A) ([.ref (α.1 1)] : List Value).toArray s 0 0 A) D A 10 (sm_wM σ α) 176 [(0, .ref (α.1 1)), (2, .int x2), (3, .int x3), (4, .int x4)] []) (L230 : sm_S → Int32 → Int32 → Int32 → Int32 → Int32 → Int32 → Int32 → Prop) (hL230 : ∀ (σ : sm_S) (x2 : Int32) (x3 : Int32) (x4 : Int32) (x5 : Int32) (x6 : Int32) (x7 : Int32) (x8 : Int32), L230 σ x2 x3 x4 x5 x6 x7 x8 → sm_J p l e (headSpec wp_X12_clean { frames := 2, cells := 0, slots := 0, locals := 46 }).room s m ([.ref (α.1 1)] : List Value).toArray below meth c (MQ below (va_Qv K (sm_B sm_wM D α) A) ([.ref (α.1 1)] : List Value).toArray s 0 0 A) D A 10 (sm_wM σ α) 230 [(0, .ref (α.1 1)), (2, .int x2), (3, .int x3), (4, .int x4), (5, .int x5), (6, .int x6), (7, .int x7), (8, .int x8)] []) (σ : sm_S) (x2 : Int32) (x3 : Int32) (x4 : Int32) (x5 : Int32) (x6 : Int32) (x7 : Int32) (x8 : Int32) (x9 : Int32) (y1 : Int32), mp_X12_clean_284 L176 L230 K σ x2 x3 x4 x5 x6 x7 x8 x9 y1 → sm_J p l e (headSpec wp_X12_clean { frames := 2, cells := 0, slots := 0, locals := 46 }).room s m ([.ref (α.1 1)] : List Value).toArray below meth c (MQ below (va_Qv K (sm_B sm_wM D α) A) ([.ref (α.1 1)] : List Value).toArray s 0 0 A) D A 10 (sm_wM σ α) 284 [(0, .ref (α.1 1)), (2, .int x2), (3, .int x3), (4, .int x4), (5, .int x5), (6, .int x6), (7, .int x7), (8, .int x8), (9, .int x9)] [.int y1, .ref (α.1 31)] := by
    intro L176 hL176 L230 hL230 σ x2 x3 x4 x5 x6 x7 x8 x9 y1 hF H locs ls hP hS hl
    unfold mp_X12_clean_284 at hF
    refine lv_iload hx hb dX12_clean_284 (lv_at hl 8 rfl) ?_
    exact B286 L176 hL176 L230 hL230 σ x2 x3 x4 x5 x6 x7 x8 y1 x9 hF H locs ls hP hS (lv_sub hl [0, 1, 2, 3, 4, 5, 6, 7] rfl)
  have B230 : ∀ (L176 : sm_S → Int32 → Int32 → Int32 → Prop) (hL176 : ∀ (σ : sm_S) (x2 : Int32) (x3 : Int32) (x4 : Int32), L176 σ x2 x3 x4 → sm_J p l e (headSpec wp_X12_clean { frames := 2, cells := 0, slots := 0, locals := 46 }).room s m ([.ref (α.1 1)] : List Value).toArray below meth c (MQ below (va_Qv K (sm_B sm_wM D α) A) ([.ref (α.1 1)] : List Value).toArray s 0 0 A) D A 10 (sm_wM σ α) 176 [(0, .ref (α.1 1)), (2, .int x2), (3, .int x3), (4, .int x4)] []) (n : Nat) (σ : sm_S) (x2 : Int32) (x3 : Int32) (x4 : Int32) (x5 : Int32) (x6 : Int32) (x7 : Int32) (x8 : Int32), mp_X12_clean_230 L176 K n σ x2 x3 x4 x5 x6 x7 x8 → sm_J p l e (headSpec wp_X12_clean { frames := 2, cells := 0, slots := 0, locals := 46 }).room s m ([.ref (α.1 1)] : List Value).toArray below meth c (MQ below (va_Qv K (sm_B sm_wM D α) A) ([.ref (α.1 1)] : List Value).toArray s 0 0 A) D A 10 (sm_wM σ α) 230 [(0, .ref (α.1 1)), (2, .int x2), (3, .int x3), (4, .int x4), (5, .int x5), (6, .int x6), (7, .int x7), (8, .int x8)] [] := by
    intro L176 hL176 n230
    induction n230 with
    | zero =>
      intro σ x2 x3 x4 x5 x6 x7 x8 hF
      exact hF.elim
    | succ n230 ih230 =>
      intro σ x2 x3 x4 x5 x6 x7 x8 hF H locs ls hP hS hl
      unfold mp_X12_clean_230 at hF
      refine lv_iload hx hb dX12_clean_230 (lv_at hl 7 rfl) ?_
      refine lv_iload hx hb dX12_clean_232 (lv_at hl 5 rfl) ?_
      refine lv_icmp_ge (tgt := 293) hx hb dX12_clean_234 (by decide) (fun h11 => ?_) (fun h11 => ?_)
      · replace hF := hF.1 h11
        refine lv_aload_n hx hb dX12_clean_293 rfl (lv_at hl 0 rfl) ?_
        refine va_get (D := D) (ci := 12) (v := .ref (α.1 25)) (C := RX12) (T := TX12) (N := 42) hx hb hts in_X12 hown hK hP 1 (sm_gX12 σ α) rfl 8 (by decide) k_3 (fun _ h9 => h9) rfl dX12_clean_294 ?_
        refine lv_iload hx hb dX12_clean_297 (lv_at hl 4 rfl) ?_
        refine lv_aload_n hx hb dX12_clean_299 rfl (lv_at hl 0 rfl) ?_
        refine va_get (D := D) (ci := 12) (v := .ref (α.1 25)) (C := RX12) (T := TX12) (N := 42) hx hb hts in_X12 hown hK hP 1 (sm_gX12 σ α) rfl 8 (by decide) k_3 (fun _ h9 => h9) rfl dX12_clean_300 ?_
        refine lv_iload hx hb dX12_clean_303 (lv_at hl 3 rfl) ?_
        obtain ⟨h12, hF⟩ := hF
        refine va_bald (n := (σ.2.2.1 25)) (f := (σ.2.2.2.1 25)) hx hb hK hP 25 23 (sm_aM25 σ α) (sm_yM25 α) h12 dX12_clean_305 ?_
        obtain ⟨h13, hF⟩ := hF
        refine va_bast (n := (σ.2.2.1 25)) (f := (σ.2.2.2.1 25)) (x := ((σ.2.2.2.1 25) x4.toNatClampNeg)) hx hb hK hP (hD.to (sm_wM_m _ _)) hS 25 23 (sm_aM25 σ α) (sm_yM25 α) h13 dX12_clean_306 (fun H locs hP _ hS => ?_)
        rw [sm_rM25] at hP
        obtain ⟨σ14, eσ14⟩ : ∃ x : sm_S, x = sm_r σ 25 (upd (σ.2.2.2.1 25) x5.toNatClampNeg (vp_nar .byte ((σ.2.2.2.1 25) x4.toNatClampNeg))) := ⟨_, rfl⟩
        replace hF := hF σ14 eσ14
        rw [← eσ14] at hP
        refine lv_aload_n hx hb dX12_clean_307 rfl (lv_at hl 0 rfl) ?_
        refine va_get (D := D) (ci := 12) (v := .ref (α.1 26)) (C := RX12) (T := TX12) (N := 42) hx hb hts in_X12 hown hK hP 1 (sm_gX12 σ14 α) rfl 9 (by decide) k_4 (fun _ h9 => h9) rfl dX12_clean_308 ?_
        refine lv_iload hx hb dX12_clean_311 (lv_at hl 4 rfl) ?_
        refine lv_aload_n hx hb dX12_clean_313 rfl (lv_at hl 0 rfl) ?_
        refine va_get (D := D) (ci := 12) (v := .ref (α.1 26)) (C := RX12) (T := TX12) (N := 42) hx hb hts in_X12 hown hK hP 1 (sm_gX12 σ14 α) rfl 9 (by decide) k_4 (fun _ h9 => h9) rfl dX12_clean_314 ?_
        refine lv_iload hx hb dX12_clean_317 (lv_at hl 3 rfl) ?_
        obtain ⟨h15, hF⟩ := hF
        refine va_iald (n := (σ14.2.2.1 26)) (f := (σ14.2.2.2.1 26)) hx hb hK hP 26 24 (sm_aM26 σ14 α) (sm_yM26 α) h15 dX12_clean_319 ?_
        obtain ⟨h16, hF⟩ := hF
        refine va_iast (n := (σ14.2.2.1 26)) (f := (σ14.2.2.2.1 26)) (x := ((σ14.2.2.2.1 26) x4.toNatClampNeg)) hx hb hK hP (hD.to (sm_wM_m _ _)) hS 26 24 (sm_aM26 σ14 α) (sm_yM26 α) h16 dX12_clean_320 (fun H locs hP _ hS => ?_)
        rw [sm_rM26] at hP
        obtain ⟨σ17, eσ17⟩ : ∃ x : sm_S, x = sm_r σ14 26 (upd (σ14.2.2.2.1 26) x5.toNatClampNeg ((σ14.2.2.2.1 26) x4.toNatClampNeg)) := ⟨_, rfl⟩
        replace hF := hF σ17 eσ17
        rw [← eσ17] at hP
        refine lv_aload_n hx hb dX12_clean_321 rfl (lv_at hl 0 rfl) ?_
        refine va_get (D := D) (ci := 12) (v := .ref (α.1 27)) (C := RX12) (T := TX12) (N := 42) hx hb hts in_X12 hown hK hP 1 (sm_gX12 σ17 α) rfl 10 (by decide) k_5 (fun _ h9 => h9) rfl dX12_clean_322 ?_
        refine lv_iload hx hb dX12_clean_325 (lv_at hl 4 rfl) ?_
        refine lv_aload_n hx hb dX12_clean_327 rfl (lv_at hl 0 rfl) ?_
        refine va_get (D := D) (ci := 12) (v := .ref (α.1 27)) (C := RX12) (T := TX12) (N := 42) hx hb hts in_X12 hown hK hP 1 (sm_gX12 σ17 α) rfl 10 (by decide) k_5 (fun _ h9 => h9) rfl dX12_clean_328 ?_
        refine lv_iload hx hb dX12_clean_331 (lv_at hl 3 rfl) ?_
        obtain ⟨h18, hF⟩ := hF
        refine va_zald (n := (σ17.2.2.1 27)) (f := (σ17.2.2.2.1 27)) hx hb hK hP 27 25 (sm_aM27 σ17 α) (sm_yM27 α) h18 dX12_clean_333 ?_
        obtain ⟨h19, hF⟩ := hF
        refine va_zast (n := (σ17.2.2.1 27)) (f := (σ17.2.2.2.1 27)) (x := ((σ17.2.2.2.1 27) x4.toNatClampNeg)) hx hb hK hP (hD.to (sm_wM_m _ _)) hS 27 25 (sm_aM27 σ17 α) (sm_yM27 α) h19 dX12_clean_334 (fun H locs hP _ hS => ?_)
        rw [sm_rM27] at hP
        obtain ⟨σ20, eσ20⟩ : ∃ x : sm_S, x = sm_r σ17 27 (upd (σ17.2.2.2.1 27) x5.toNatClampNeg (vp_nar .boolean ((σ17.2.2.2.1 27) x4.toNatClampNeg))) := ⟨_, rfl⟩
        replace hF := hF σ20 eσ20
        rw [← eσ20] at hP
        refine lv_aload_n hx hb dX12_clean_335 rfl (lv_at hl 0 rfl) ?_
        refine va_get (D := D) (ci := 12) (v := .ref (α.1 28)) (C := RX12) (T := TX12) (N := 42) hx hb hts in_X12 hown hK hP 1 (sm_gX12 σ20 α) rfl 11 (by decide) k_6 (fun _ h9 => h9) rfl dX12_clean_336 ?_
        refine lv_iload hx hb dX12_clean_339 (lv_at hl 4 rfl) ?_
        refine lv_aload_n hx hb dX12_clean_341 rfl (lv_at hl 0 rfl) ?_
        refine va_get (D := D) (ci := 12) (v := .ref (α.1 28)) (C := RX12) (T := TX12) (N := 42) hx hb hts in_X12 hown hK hP 1 (sm_gX12 σ20 α) rfl 11 (by decide) k_6 (fun _ h9 => h9) rfl dX12_clean_342 ?_
        refine lv_iload hx hb dX12_clean_345 (lv_at hl 3 rfl) ?_
        obtain ⟨h21, hF⟩ := hF
        refine va_bald (n := (σ20.2.2.1 28)) (f := (σ20.2.2.2.1 28)) hx hb hK hP 28 26 (sm_aM28 σ20 α) (sm_yM28 α) h21 dX12_clean_347 ?_
        obtain ⟨h22, hF⟩ := hF
        refine va_bast (n := (σ20.2.2.1 28)) (f := (σ20.2.2.2.1 28)) (x := ((σ20.2.2.2.1 28) x4.toNatClampNeg)) hx hb hK hP (hD.to (sm_wM_m _ _)) hS 28 26 (sm_aM28 σ20 α) (sm_yM28 α) h22 dX12_clean_348 (fun H locs hP _ hS => ?_)
        rw [sm_rM28] at hP
        obtain ⟨σ23, eσ23⟩ : ∃ x : sm_S, x = sm_r σ20 28 (upd (σ20.2.2.2.1 28) x5.toNatClampNeg (vp_nar .byte ((σ20.2.2.2.1 28) x4.toNatClampNeg))) := ⟨_, rfl⟩
        replace hF := hF σ23 eσ23
        rw [← eσ23] at hP
        refine lv_aload_n hx hb dX12_clean_349 rfl (lv_at hl 0 rfl) ?_
        refine va_get (D := D) (ci := 12) (v := .ref (α.1 29)) (C := RX12) (T := TX12) (N := 42) hx hb hts in_X12 hown hK hP 1 (sm_gX12 σ23 α) rfl 12 (by decide) k_7 (fun _ h9 => h9) rfl dX12_clean_350 ?_
        refine lv_iload hx hb dX12_clean_353 (lv_at hl 4 rfl) ?_
        refine lv_iload_n hx hb dX12_clean_355 rfl (lv_at hl 2 rfl) ?_
        obtain ⟨h24, hF⟩ := hF
        refine va_iast (n := (σ23.2.2.1 29)) (f := (σ23.2.2.2.1 29)) (x := x3) hx hb hK hP (hD.to (sm_wM_m _ _)) hS 29 27 (sm_aM29 σ23 α) (sm_yM29 α) h24 dX12_clean_356 (fun H locs hP _ hS => ?_)
        rw [sm_rM29] at hP
        obtain ⟨σ25, eσ25⟩ : ∃ x : sm_S, x = sm_r σ23 29 (upd (σ23.2.2.2.1 29) x5.toNatClampNeg x3) := ⟨_, rfl⟩
        replace hF := hF σ25 eσ25
        rw [← eσ25] at hP
        refine lv_aload_n hx hb dX12_clean_357 rfl (lv_at hl 0 rfl) ?_
        refine va_get (D := D) (ci := 12) (v := .ref (α.1 30)) (C := RX12) (T := TX12) (N := 42) hx hb hts in_X12 hown hK hP 1 (sm_gX12 σ25 α) rfl 13 (by decide) k_2 (fun _ h9 => h9) rfl dX12_clean_358 ?_
        refine lv_iload hx hb dX12_clean_361 (lv_at hl 4 rfl) ?_
        refine lv_aload_n hx hb dX12_clean_363 rfl (lv_at hl 0 rfl) ?_
        refine va_get (D := D) (ci := 12) (v := .int (σ25.1 12)) (C := RX12) (T := TX12) (N := 42) hx hb hts in_X12 hown hK hP 1 (sm_gX12 σ25 α) rfl 14 (by decide) k_8 (fun _ h9 => h9) rfl dX12_clean_364 ?_
        obtain ⟨h26, hF⟩ := hF
        refine va_iast (n := (σ25.2.2.1 30)) (f := (σ25.2.2.2.1 30)) (x := (σ25.1 12)) hx hb hK hP (hD.to (sm_wM_m _ _)) hS 30 28 (sm_aM30 σ25 α) (sm_yM30 α) h26 dX12_clean_367 (fun H locs hP _ hS => ?_)
        rw [sm_rM30] at hP
        obtain ⟨σ27, eσ27⟩ : ∃ x : sm_S, x = sm_r σ25 30 (upd (σ25.2.2.2.1 30) x5.toNatClampNeg (σ25.1 12)) := ⟨_, rfl⟩
        replace hF := hF σ27 eσ27
        rw [← eσ27] at hP
        refine lv_iload_n hx hb dX12_clean_368 rfl (lv_at hl 2 rfl) ?_
        refine lv_iload hx hb dX12_clean_369 (lv_at hl 5 rfl) ?_
        refine lv_iadd hx hb dX12_clean_371 ?_
        refine lv_topi (fun v28 ev28 => ?_)
        replace hF := hF v28 ev28
        refine lv_istore_n (lv' := [(3, .int v28), (0, .ref (α.1 1)), (2, .int x2), (4, .int x4), (5, .int x5), (6, .int x6), (7, .int x7), (8, .int x8)]) hx hb dX12_clean_372 rfl hl (by decide) rfl (fun ls hl => ?_)
        exact B373 L176 hL176 σ27 x2 v28 x4 hF H locs ls hP hS (lv_sub hl [1, 2, 0, 3] rfl)
      · replace hF := hF.2 h11
        refine lv_aload_n hx hb dX12_clean_237 rfl (lv_at hl 0 rfl) ?_
        refine va_get (D := D) (ci := 12) (v := .ref (α.1 31)) (C := RX12) (T := TX12) (N := 42) hx hb hts in_X12 hown hK hP 1 (sm_gX12 σ α) rfl 16 (by decide) k_9 (fun _ h9 => h9) rfl dX12_clean_238 ?_
        refine lv_iload hx hb dX12_clean_241 (lv_at hl 6 rfl) ?_
        refine lv_iload hx hb dX12_clean_243 (lv_at hl 7 rfl) ?_
        refine lv_iadd hx hb dX12_clean_245 ?_
        obtain ⟨h29, hF⟩ := hF
        refine va_iald (n := (σ.2.2.1 31)) (f := (σ.2.2.2.1 31)) hx hb hK hP 31 29 (sm_aM31 σ α) (sm_yM31 α) h29 dX12_clean_246 ?_
        refine lv_topi (fun v30 ev30 => ?_)
        replace hF := hF v30 ev30
        refine lv_istore (lv' := [(9, .int v30), (0, .ref (α.1 1)), (2, .int x2), (3, .int x3), (4, .int x4), (5, .int x5), (6, .int x6), (7, .int x7), (8, .int x8)]) hx hb dX12_clean_247 hl (by decide) rfl (fun ls hl => ?_)
        refine lv_aload_n hx hb dX12_clean_249 rfl (lv_at hl 1 rfl) ?_
        refine va_get (D := D) (ci := 12) (v := .ref (α.1 31)) (C := RX12) (T := TX12) (N := 42) hx hb hts in_X12 hown hK hP 1 (sm_gX12 σ α) rfl 16 (by decide) k_9 (fun _ h9 => h9) rfl dX12_clean_250 ?_
        refine lv_iload_n hx hb dX12_clean_253 rfl (lv_at hl 3 rfl) ?_
        refine lv_iload hx hb dX12_clean_254 (lv_at hl 8 rfl) ?_
        refine lv_iadd hx hb dX12_clean_256 ?_
        refine lv_aload_n hx hb dX12_clean_257 rfl (lv_at hl 1 rfl) ?_
        refine lv_iload hx hb dX12_clean_258 (lv_at hl 4 rfl) ?_
        refine lv_iload hx hb dX12_clean_260 (lv_at hl 8 rfl) ?_
        refine sm_vi (As := [.int x4, .int x8]) (rest := [.int (x3 + x8), .ref (α.1 31)]) hP hK hD hE hS hA ⟨hx, hb, hml, hown, hts⟩ hl.1 (c_X12_isPart l D H.size t0 σ α x4 x8 _ hF) (cwV 2 hts wg_X12_clean_X12_isPart_307 rfl rfl rfl (by decide +kernel) ⟨Nat.le_of_ble_eq_true rfl, Nat.le_of_ble_eq_true rfl⟩) (va_recv hK hP (ci := 12) (q0 := 1) rfl (sm_gX12 σ α)) rfl rfl (Nat.le_of_ble_eq_true rfl) dX12_clean_262 ⟨Nat.zero_le _, Nat.zero_le _⟩ (fun r32 σ31 H locs hF hP hS => ?_)
        refine lv_if_eq (tgt := 284) hx hb dX12_clean_265 (by decide) (fun h33 => ?_) (fun h33 => ?_)
        · replace hF := hF.1 h33
          exact B284 L176 hL176 (mp_X12_clean_230 L176 K n230) ih230 σ31 x2 x3 x4 x5 x6 x7 x8 v30 (x3 + x8) hF H locs ls hP hS (lv_sub hl [1, 2, 3, 4, 5, 6, 7, 8, 0] rfl)
        · replace hF := hF.2 h33
          refine lv_iload hx hb dX12_clean_268 (lv_at hl 0 rfl) ?_
          refine lv_iconst (v := -1) hx hb dX12_clean_270 (by decide) ?_
          refine lv_icmp_eq (tgt := 284) hx hb dX12_clean_271 (by decide) (fun h34 => ?_) (fun h34 => ?_)
          · replace hF := hF.1 h34
            exact B284 L176 hL176 (mp_X12_clean_230 L176 K n230) ih230 σ31 x2 x3 x4 x5 x6 x7 x8 v30 (x3 + x8) hF H locs ls hP hS (lv_sub hl [1, 2, 3, 4, 5, 6, 7, 8, 0] rfl)
          · replace hF := hF.2 h34
            refine lv_aload_n hx hb dX12_clean_274 rfl (lv_at hl 1 rfl) ?_
            refine va_get (D := D) (ci := 12) (v := .ref (α.1 32)) (C := RX12) (T := TX12) (N := 42) hx hb hts in_X12 hown hK hP 1 (sm_gX12 σ31 α) rfl 17 (by decide) k_10 (fun _ h9 => h9) rfl dX12_clean_275 ?_
            refine lv_iload hx hb dX12_clean_278 (lv_at hl 0 rfl) ?_
            obtain ⟨h35, hF⟩ := hF
            refine va_iald (n := (σ31.2.2.1 32)) (f := (σ31.2.2.2.1 32)) hx hb hK hP 32 30 (sm_aM32 σ31 α) (sm_yM32 α) h35 dX12_clean_280 ?_
            refine lv_goto (tgt := 286) hx hb dX12_clean_281 (by decide) ?_
            exact B286 L176 hL176 (mp_X12_clean_230 L176 K n230) ih230 σ31 x2 x3 x4 x5 x6 x7 x8 (x3 + x8) ((σ31.2.2.2.1 32) v30.toNatClampNeg) hF H locs ls hP hS (lv_sub hl [1, 2, 3, 4, 5, 6, 7, 8] rfl)
  have B176 : ∀ (n : Nat) (σ : sm_S) (x2 : Int32) (x3 : Int32) (x4 : Int32), mp_X12_clean_176 K n σ x2 x3 x4 → sm_J p l e (headSpec wp_X12_clean { frames := 2, cells := 0, slots := 0, locals := 46 }).room s m ([.ref (α.1 1)] : List Value).toArray below meth c (MQ below (va_Qv K (sm_B sm_wM D α) A) ([.ref (α.1 1)] : List Value).toArray s 0 0 A) D A 10 (sm_wM σ α) 176 [(0, .ref (α.1 1)), (2, .int x2), (3, .int x3), (4, .int x4)] [] := by
    intro n176
    induction n176 with
    | zero =>
      intro σ x2 x3 x4 hF
      exact hF.elim
    | succ n176 ih176 =>
      intro σ x2 x3 x4 hF H locs ls hP hS hl
      unfold mp_X12_clean_176 at hF
      refine lv_iload hx hb dX12_clean_176 (lv_at hl 3 rfl) ?_
      refine lv_aload_n hx hb dX12_clean_178 rfl (lv_at hl 0 rfl) ?_
      refine va_get (D := D) (ci := 12) (v := .int (σ.1 11)) (C := RX12) (T := TX12) (N := 42) hx hb hts in_X12 hown hK hP 1 (sm_gX12 σ α) rfl 7 (by decide) k_0 (fun _ h9 => h9) rfl dX12_clean_179 ?_
      refine lv_icmp_ge (tgt := 379) hx hb dX12_clean_182 (by decide) (fun h36 => ?_) (fun h36 => ?_)
      · replace hF := hF.1 h36
        refine lv_iload_n hx hb dX12_clean_379 rfl (lv_at hl 1 rfl) ?_
        refine lv_istore (lv' := [(4, .int x2), (0, .ref (α.1 1)), (2, .int x2), (3, .int x3)]) hx hb dX12_clean_380 hl (by decide) rfl (fun ls hl => ?_)
        obtain ⟨n382, hF⟩ := hF
        exact B382 n382 σ x2 x3 x2 hF H locs ls hP hS (lv_sub hl [1, 2, 3, 0] rfl)
      · replace hF := hF.2 h36
        refine lv_aload_n hx hb dX12_clean_185 rfl (lv_at hl 0 rfl) ?_
        refine va_get (D := D) (ci := 12) (v := .ref (α.1 30)) (C := RX12) (T := TX12) (N := 42) hx hb hts in_X12 hown hK hP 1 (sm_gX12 σ α) rfl 13 (by decide) k_2 (fun _ h9 => h9) rfl dX12_clean_186 ?_
        refine lv_iload hx hb dX12_clean_189 (lv_at hl 3 rfl) ?_
        obtain ⟨h37, hF⟩ := hF
        refine va_iald (n := (σ.2.2.1 30)) (f := (σ.2.2.2.1 30)) hx hb hK hP 30 28 (sm_aM30 σ α) (sm_yM30 α) h37 dX12_clean_191 ?_
        refine lv_aload_n hx hb dX12_clean_192 rfl (lv_at hl 0 rfl) ?_
        refine va_get (D := D) (ci := 12) (v := .int (σ.1 12)) (C := RX12) (T := TX12) (N := 42) hx hb hts in_X12 hown hK hP 1 (sm_gX12 σ α) rfl 14 (by decide) k_8 (fun _ h9 => h9) rfl dX12_clean_193 ?_
        refine lv_icmp_ne (tgt := 373) hx hb dX12_clean_196 (by decide) (fun h38 => ?_) (fun h38 => ?_)
        · replace hF := hF.1 h38
          exact B373 (mp_X12_clean_176 K n176) ih176 σ x2 x3 x4 hF H locs ls hP hS (lv_sub hl [0, 1, 2, 3] rfl)
        · replace hF := hF.2 h38
          refine lv_aload_n hx hb dX12_clean_199 rfl (lv_at hl 0 rfl) ?_
          refine va_get (D := D) (ci := 12) (v := .ref (α.1 32)) (C := RX12) (T := TX12) (N := 42) hx hb hts in_X12 hown hK hP 1 (sm_gX12 σ α) rfl 17 (by decide) k_10 (fun _ h9 => h9) rfl dX12_clean_200 ?_
          refine lv_iload hx hb dX12_clean_203 (lv_at hl 3 rfl) ?_
          obtain ⟨h39, hF⟩ := hF
          refine va_iald (n := (σ.2.2.1 32)) (f := (σ.2.2.2.1 32)) hx hb hK hP 32 30 (sm_aM32 σ α) (sm_yM32 α) h39 dX12_clean_205 ?_
          refine lv_topi (fun v40 ev40 => ?_)
          replace hF := hF v40 ev40
          refine lv_istore (lv' := [(5, .int v40), (0, .ref (α.1 1)), (2, .int x2), (3, .int x3), (4, .int x4)]) hx hb dX12_clean_206 hl (by decide) rfl (fun ls hl => ?_)
          refine lv_aload_n hx hb dX12_clean_208 rfl (lv_at hl 1 rfl) ?_
          refine lv_iload hx hb dX12_clean_209 (lv_at hl 4 rfl) ?_
          refine sm_vi (As := [.int x4]) (rest := []) hP hK hD hE hS hA ⟨hx, hb, hml, hown, hts⟩ hl.1 (c_X12_cellsOf l D H.size t0 σ α x4 _ hF) (cwV 1 hts wg_X12_clean_X12_cellsOf_304 rfl rfl rfl (by decide +kernel) ⟨Nat.le_of_ble_eq_true rfl, Nat.le_of_ble_eq_true rfl⟩) (va_recv hK hP (ci := 12) (q0 := 1) rfl (sm_gX12 σ α)) rfl rfl (Nat.le_of_ble_eq_true rfl) dX12_clean_211 ⟨Nat.zero_le _, Nat.zero_le _⟩ (fun r42 σ41 H locs hF hP hS => ?_)
          refine lv_iconst (v := 1) hx hb dX12_clean_214 (by decide) ?_
          refine lv_isub hx hb dX12_clean_215 ?_
          refine lv_topi (fun v43 ev43 => ?_)
          replace hF := hF v43 ev43
          refine lv_istore (lv' := [(6, .int v43), (5, .int v40), (0, .ref (α.1 1)), (2, .int x2), (3, .int x3), (4, .int x4)]) hx hb dX12_clean_216 hl (by decide) rfl (fun ls hl => ?_)
          refine lv_aload_n hx hb dX12_clean_218 rfl (lv_at hl 2 rfl) ?_
          refine va_get (D := D) (ci := 12) (v := .ref (α.1 29)) (C := RX12) (T := TX12) (N := 42) hx hb hts in_X12 hown hK hP 1 (sm_gX12 σ41 α) rfl 12 (by decide) k_7 (fun _ h9 => h9) rfl dX12_clean_219 ?_
          refine lv_iload hx hb dX12_clean_222 (lv_at hl 5 rfl) ?_
          obtain ⟨h44, hF⟩ := hF
          refine va_iald (n := (σ41.2.2.1 29)) (f := (σ41.2.2.2.1 29)) hx hb hK hP 29 27 (sm_aM29 σ41 α) (sm_yM29 α) h44 dX12_clean_224 ?_
          refine lv_topi (fun v45 ev45 => ?_)
          replace hF := hF v45 ev45
          refine lv_istore (lv' := [(7, .int v45), (6, .int v43), (5, .int v40), (0, .ref (α.1 1)), (2, .int x2), (3, .int x3), (4, .int x4)]) hx hb dX12_clean_225 hl (by decide) rfl (fun ls hl => ?_)
          refine lv_iconst (v := 0) hx hb dX12_clean_227 (by decide) ?_
          refine lv_istore (lv' := [(8, .int 0), (7, .int v45), (6, .int v43), (5, .int v40), (0, .ref (α.1 1)), (2, .int x2), (3, .int x3), (4, .int x4)]) hx hb dX12_clean_228 hl (by decide) rfl (fun ls hl => ?_)
          obtain ⟨n230, hF⟩ := hF
          exact B230 (mp_X12_clean_176 K n176) ih176 n230 σ41 x2 x3 x4 v40 v43 v45 0 hF H locs ls hP hS (lv_sub hl [4, 5, 6, 7, 3, 2, 1, 0] rfl)
  have B168 : ∀ (σ : sm_S) (x2 : Int32) (y1 : Int32), mp_X12_clean_168 K σ x2 y1 → sm_J p l e (headSpec wp_X12_clean { frames := 2, cells := 0, slots := 0, locals := 46 }).room s m ([.ref (α.1 1)] : List Value).toArray below meth c (MQ below (va_Qv K (sm_B sm_wM D α) A) ([.ref (α.1 1)] : List Value).toArray s 0 0 A) D A 10 (sm_wM σ α) 168 [(0, .ref (α.1 1)), (2, .int x2)] [.int y1, .ref (α.1 1)] := by
    intro σ x2 y1 hF H locs ls hP hS hl
    unfold mp_X12_clean_168 at hF
    refine va_put (D := D) (ci := 12) (v := .int y1) (ty := .int) (C := RX12) (T := TX12) (N := 42) hx hb hts in_X12 tyX12 tyX12_ok nmX12 hown hK hP (hD.to (sm_wM_m _ _)) hS 1 (sm_gX12 σ α) rfl 25 (by decide) k_11 (fun _ h9 => h9) rfl (by decide +kernel) rfl rfl (Nat.le_of_ble_eq_true rfl) dX12_clean_168 (fun H locs hP _ hS => ?_)
    rw [sm_iM16] at hP
    obtain ⟨σ46, eσ46⟩ : ∃ x : sm_S, x = sm_i σ 16 y1 := ⟨_, rfl⟩
    replace hF := hF σ46 eσ46
    rw [← eσ46] at hP
    refine lv_iconst (v := 0) hx hb dX12_clean_171 (by decide) ?_
    refine lv_istore_n (lv' := [(3, .int 0), (0, .ref (α.1 1)), (2, .int x2)]) hx hb dX12_clean_172 rfl hl (by decide) rfl (fun ls hl => ?_)
    refine lv_iconst (v := 0) hx hb dX12_clean_173 (by decide) ?_
    refine lv_istore (lv' := [(4, .int 0), (3, .int 0), (0, .ref (α.1 1)), (2, .int x2)]) hx hb dX12_clean_174 hl (by decide) rfl (fun ls hl => ?_)
    obtain ⟨n176, hF⟩ := hF
    exact B176 n176 σ46 x2 0 0 hF H locs ls hP hS (lv_sub hl [2, 3, 1, 0] rfl)
  have B138 : ∀ (L53 : sm_S → Int32 → Int32 → Prop) (hL53 : ∀ (σ : sm_S) (x2 : Int32) (x3 : Int32), L53 σ x2 x3 → sm_J p l e (headSpec wp_X12_clean { frames := 2, cells := 0, slots := 0, locals := 46 }).room s m ([.ref (α.1 1)] : List Value).toArray below meth c (MQ below (va_Qv K (sm_B sm_wM D α) A) ([.ref (α.1 1)] : List Value).toArray s 0 0 A) D A 10 (sm_wM σ α) 53 [(0, .ref (α.1 1)), (2, .int x2), (3, .int x3)] []) (σ : sm_S) (x2 : Int32) (x3 : Int32), mp_X12_clean_138 L53 K σ x2 x3 → sm_J p l e (headSpec wp_X12_clean { frames := 2, cells := 0, slots := 0, locals := 46 }).room s m ([.ref (α.1 1)] : List Value).toArray below meth c (MQ below (va_Qv K (sm_B sm_wM D α) A) ([.ref (α.1 1)] : List Value).toArray s 0 0 A) D A 10 (sm_wM σ α) 138 [(0, .ref (α.1 1)), (2, .int x2), (3, .int x3)] [] := by
    intro L53 hL53 σ x2 x3 hF H locs ls hP hS hl
    unfold mp_X12_clean_138 at hF
    obtain ⟨v47, ev47⟩ : ∃ y : Int32, y = x3 + 1 := ⟨_, rfl⟩
    replace hF := hF v47 ev47
    refine lv_iinc (v := v47) (lv' := [(3, .int v47), (0, .ref (α.1 1)), (2, .int x2)]) hx hb dX12_clean_138 hl (k := 2) rfl (by rw [ev47]; rfl) (by decide) rfl (fun ls hl => ?_)
    refine lv_goto (tgt := 53) hx hb dX12_clean_141 (by decide) ?_
    exact hL53 σ x2 v47 hF H locs ls hP hS (lv_sub hl [1, 2, 0] rfl)
  have B53 : ∀ (n : Nat) (σ : sm_S) (x2 : Int32) (x3 : Int32), mp_X12_clean_53 K n σ x2 x3 → sm_J p l e (headSpec wp_X12_clean { frames := 2, cells := 0, slots := 0, locals := 46 }).room s m ([.ref (α.1 1)] : List Value).toArray below meth c (MQ below (va_Qv K (sm_B sm_wM D α) A) ([.ref (α.1 1)] : List Value).toArray s 0 0 A) D A 10 (sm_wM σ α) 53 [(0, .ref (α.1 1)), (2, .int x2), (3, .int x3)] [] := by
    intro n53
    induction n53 with
    | zero =>
      intro σ x2 x3 hF
      exact hF.elim
    | succ n53 ih53 =>
      intro σ x2 x3 hF H locs ls hP hS hl
      unfold mp_X12_clean_53 at hF
      refine lv_iload_n hx hb dX12_clean_53 rfl (lv_at hl 2 rfl) ?_
      refine lv_bipush (v := 12) hx hb dX12_clean_54 (by decide) ?_
      refine lv_aload_n hx hb dX12_clean_56 rfl (lv_at hl 0 rfl) ?_
      refine va_get (D := D) (ci := 12) (v := .int (σ.1 14)) (C := RX12) (T := TX12) (N := 42) hx hb hts in_X12 hown hK hP 1 (sm_gX12 σ α) rfl 18 (by decide) k_12 (fun _ h9 => h9) rfl dX12_clean_57 ?_
      refine lv_imul hx hb dX12_clean_60 ?_
      refine lv_icmp_ge (tgt := 144) hx hb dX12_clean_61 (by decide) (fun h48 => ?_) (fun h48 => ?_)
      · replace hF := hF.1 h48
        refine lv_aload_n hx hb dX12_clean_144 rfl (lv_at hl 0 rfl) ?_
        refine lv_aload_n hx hb dX12_clean_145 rfl (lv_at hl 0 rfl) ?_
        refine va_get (D := D) (ci := 12) (v := .int (σ.1 15)) (C := RX12) (T := TX12) (N := 42) hx hb hts in_X12 hown hK hP 1 (sm_gX12 σ α) rfl 24 (by decide) k_13 (fun _ h9 => h9) rfl dX12_clean_146 ?_
        refine lv_if_eq (tgt := 164) hx hb dX12_clean_149 (by decide) (fun h49 => ?_) (fun h49 => ?_)
        · replace hF := hF.1 h49
          refine lv_aload_n hx hb dX12_clean_164 rfl (lv_at hl 0 rfl) ?_
          refine va_get (D := D) (ci := 12) (v := .int (σ.1 16)) (C := RX12) (T := TX12) (N := 42) hx hb hts in_X12 hown hK hP 1 (sm_gX12 σ α) rfl 25 (by decide) k_11 (fun _ h9 => h9) rfl dX12_clean_165 ?_
          exact B168 σ x2 (σ.1 16) hF H locs ls hP hS (lv_sub hl [0, 1] rfl)
        · replace hF := hF.2 h49
          refine lv_aload_n hx hb dX12_clean_152 rfl (lv_at hl 0 rfl) ?_
          refine va_get (D := D) (ci := 12) (v := .ref (α.1 32)) (C := RX12) (T := TX12) (N := 42) hx hb hts in_X12 hown hK hP 1 (sm_gX12 σ α) rfl 17 (by decide) k_10 (fun _ h9 => h9) rfl dX12_clean_153 ?_
          refine lv_aload_n hx hb dX12_clean_156 rfl (lv_at hl 0 rfl) ?_
          refine va_get (D := D) (ci := 12) (v := .int (σ.1 16)) (C := RX12) (T := TX12) (N := 42) hx hb hts in_X12 hown hK hP 1 (sm_gX12 σ α) rfl 25 (by decide) k_11 (fun _ h9 => h9) rfl dX12_clean_157 ?_
          obtain ⟨h50, hF⟩ := hF
          refine va_iald (n := (σ.2.2.1 32)) (f := (σ.2.2.2.1 32)) hx hb hK hP 32 30 (sm_aM32 σ α) (sm_yM32 α) h50 dX12_clean_160 ?_
          refine lv_goto (tgt := 168) hx hb dX12_clean_161 (by decide) ?_
          exact B168 σ x2 ((σ.2.2.2.1 32) (σ.1 16).toNatClampNeg) hF H locs ls hP hS (lv_sub hl [0, 1] rfl)
      · replace hF := hF.2 h48
        refine lv_aload_n hx hb dX12_clean_64 rfl (lv_at hl 0 rfl) ?_
        refine va_get (D := D) (ci := 12) (v := .ref (α.1 0)) (C := RX12) (T := TX12) (N := 42) hx hb hts in_X12 hown hK hP 1 (sm_gX12 σ α) rfl 0 (by decide) k_14 (fun _ h9 => h9) rfl dX12_clean_65 ?_
        refine va_getN (D := D) (ci := 11) (v := .ref (α.1 15)) (C := RX11) (T := TX11) (N := 28) hx hb hts in_X11 hown hK hP 0 (sm_gX11 σ α) rfl 20 (by decide) (va_Nw.use rfl (hE.1 (.fieldLinkNest "SteadyMachineModel" 27 "SteadyMachineModel$Image" "locals" "[I" "SteadyMachineModel") (by decide +kernel))) (fun _ h9 => h9) rfl dX12_clean_68 ?_
        refine lv_aload_n hx hb dX12_clean_71 rfl (lv_at hl 0 rfl) ?_
        refine va_get (D := D) (ci := 12) (v := .ref (α.1 33)) (C := RX12) (T := TX12) (N := 42) hx hb hts in_X12 hown hK hP 1 (sm_gX12 σ α) rfl 19 (by decide) k_15 (fun _ h9 => h9) rfl dX12_clean_72 ?_
        refine lv_iload_n hx hb dX12_clean_75 rfl (lv_at hl 2 rfl) ?_
        refine lv_bipush (v := 12) hx hb dX12_clean_76 (by decide) ?_
        refine lv_idiv hx hb dX12_clean_78 (by decide) ?_
        obtain ⟨h51, hF⟩ := hF
        refine va_iald (n := (σ.2.2.1 33)) (f := (σ.2.2.2.1 33)) hx hb hK hP 33 31 (sm_aM33 σ α) (sm_yM33 α) h51 dX12_clean_79 ?_
        obtain ⟨h52, hF⟩ := hF
        refine va_iald (n := (σ.2.2.1 15)) (f := (σ.2.2.2.1 15)) hx hb hK hP 15 13 (sm_aM15 σ α) (sm_yM15 α) h52 dX12_clean_80 ?_
        refine lv_aload_n hx hb dX12_clean_81 rfl (lv_at hl 0 rfl) ?_
        refine va_get (D := D) (ci := 12) (v := .ref (α.1 35)) (C := RX12) (T := TX12) (N := 42) hx hb hts in_X12 hown hK hP 1 (sm_gX12 σ α) rfl 21 (by decide) k_16 (fun _ h9 => h9) rfl dX12_clean_82 ?_
        refine lv_iload_n hx hb dX12_clean_85 rfl (lv_at hl 2 rfl) ?_
        refine lv_bipush (v := 12) hx hb dX12_clean_86 (by decide) ?_
        refine lv_idiv hx hb dX12_clean_88 (by decide) ?_
        obtain ⟨h53, hF⟩ := hF
        refine va_iald (n := (σ.2.2.1 35)) (f := (σ.2.2.2.1 35)) hx hb hK hP 35 33 (sm_aM35 σ α) (sm_yM35 α) h53 dX12_clean_89 ?_
        refine lv_iadd hx hb dX12_clean_90 ?_
        refine lv_topi (fun v54 ev54 => ?_)
        replace hF := hF v54 ev54
        refine lv_istore (lv' := [(4, .int v54), (0, .ref (α.1 1)), (2, .int x2), (3, .int x3)]) hx hb dX12_clean_91 hl (by decide) rfl (fun ls hl => ?_)
        refine lv_iload_n hx hb dX12_clean_93 rfl (lv_at hl 3 rfl) ?_
        refine lv_bipush (v := 12) hx hb dX12_clean_94 (by decide) ?_
        refine lv_irem hx hb dX12_clean_96 (by decide) ?_
        refine lv_iload hx hb dX12_clean_97 (lv_at hl 0 rfl) ?_
        refine lv_icmp_ge (tgt := 138) hx hb dX12_clean_99 (by decide) (fun h55 => ?_) (fun h55 => ?_)
        · replace hF := hF.1 h55
          exact B138 (mp_X12_clean_53 K n53) ih53 σ x2 x3 hF H locs ls hP hS (lv_sub hl [1, 2, 3] rfl)
        · replace hF := hF.2 h55
          refine lv_aload_n hx hb dX12_clean_102 rfl (lv_at hl 1 rfl) ?_
          refine va_get (D := D) (ci := 12) (v := .ref (α.1 37)) (C := RX12) (T := TX12) (N := 42) hx hb hts in_X12 hown hK hP 1 (sm_gX12 σ α) rfl 23 (by decide) k_17 (fun _ h9 => h9) rfl dX12_clean_103 ?_
          refine lv_iload_n hx hb dX12_clean_106 rfl (lv_at hl 3 rfl) ?_
          obtain ⟨h56, hF⟩ := hF
          refine va_zald (n := (σ.2.2.1 37)) (f := (σ.2.2.2.1 37)) hx hb hK hP 37 35 (sm_aM37 σ α) (sm_yM37 α) h56 dX12_clean_107 ?_
          refine lv_if_eq (tgt := 138) hx hb dX12_clean_108 (by decide) (fun h57 => ?_) (fun h57 => ?_)
          · replace hF := hF.1 h57
            exact B138 (mp_X12_clean_53 K n53) ih53 σ x2 x3 hF H locs ls hP hS (lv_sub hl [1, 2, 3] rfl)
          · replace hF := hF.2 h57
            refine lv_aload_n hx hb dX12_clean_111 rfl (lv_at hl 1 rfl) ?_
            refine va_get (D := D) (ci := 12) (v := .ref (α.1 36)) (C := RX12) (T := TX12) (N := 42) hx hb hts in_X12 hown hK hP 1 (sm_gX12 σ α) rfl 22 (by decide) k_18 (fun _ h9 => h9) rfl dX12_clean_112 ?_
            refine lv_iload_n hx hb dX12_clean_115 rfl (lv_at hl 3 rfl) ?_
            obtain ⟨h58, hF⟩ := hF
            refine va_iald (n := (σ.2.2.1 36)) (f := (σ.2.2.2.1 36)) hx hb hK hP 36 34 (sm_aM36 σ α) (sm_yM36 α) h58 dX12_clean_116 ?_
            refine lv_iconst (v := -1) hx hb dX12_clean_117 (by decide) ?_
            refine lv_icmp_eq (tgt := 138) hx hb dX12_clean_118 (by decide) (fun h59 => ?_) (fun h59 => ?_)
            · replace hF := hF.1 h59
              exact B138 (mp_X12_clean_53 K n53) ih53 σ x2 x3 hF H locs ls hP hS (lv_sub hl [1, 2, 3] rfl)
            · replace hF := hF.2 h59
              refine lv_aload_n hx hb dX12_clean_121 rfl (lv_at hl 1 rfl) ?_
              refine va_get (D := D) (ci := 12) (v := .ref (α.1 36)) (C := RX12) (T := TX12) (N := 42) hx hb hts in_X12 hown hK hP 1 (sm_gX12 σ α) rfl 22 (by decide) k_18 (fun _ h9 => h9) rfl dX12_clean_122 ?_
              refine lv_iload_n hx hb dX12_clean_125 rfl (lv_at hl 3 rfl) ?_
              refine lv_aload_n hx hb dX12_clean_126 rfl (lv_at hl 1 rfl) ?_
              refine va_get (D := D) (ci := 12) (v := .ref (α.1 32)) (C := RX12) (T := TX12) (N := 42) hx hb hts in_X12 hown hK hP 1 (sm_gX12 σ α) rfl 17 (by decide) k_10 (fun _ h9 => h9) rfl dX12_clean_127 ?_
              refine lv_aload_n hx hb dX12_clean_130 rfl (lv_at hl 1 rfl) ?_
              refine va_get (D := D) (ci := 12) (v := .ref (α.1 36)) (C := RX12) (T := TX12) (N := 42) hx hb hts in_X12 hown hK hP 1 (sm_gX12 σ α) rfl 22 (by decide) k_18 (fun _ h9 => h9) rfl dX12_clean_131 ?_
              refine lv_iload_n hx hb dX12_clean_134 rfl (lv_at hl 3 rfl) ?_
              obtain ⟨h60, hF⟩ := hF
              refine va_iald (n := (σ.2.2.1 36)) (f := (σ.2.2.2.1 36)) hx hb hK hP 36 34 (sm_aM36 σ α) (sm_yM36 α) h60 dX12_clean_135 ?_
              obtain ⟨h61, hF⟩ := hF
              refine va_iald (n := (σ.2.2.1 32)) (f := (σ.2.2.2.1 32)) hx hb hK hP 32 30 (sm_aM32 σ α) (sm_yM32 α) h61 dX12_clean_136 ?_
              obtain ⟨h62, hF⟩ := hF
              refine va_iast (n := (σ.2.2.1 36)) (f := (σ.2.2.2.1 36)) (x := ((σ.2.2.2.1 32) ((σ.2.2.2.1 36) x3.toNatClampNeg).toNatClampNeg)) hx hb hK hP (hD.to (sm_wM_m _ _)) hS 36 34 (sm_aM36 σ α) (sm_yM36 α) h62 dX12_clean_137 (fun H locs hP _ hS => ?_)
              rw [sm_rM36] at hP
              obtain ⟨σ63, eσ63⟩ : ∃ x : sm_S, x = sm_r σ 36 (upd (σ.2.2.2.1 36) x3.toNatClampNeg ((σ.2.2.2.1 32) ((σ.2.2.2.1 36) x3.toNatClampNeg).toNatClampNeg)) := ⟨_, rfl⟩
              replace hF := hF σ63 eσ63
              rw [← eσ63] at hP
              exact B138 (mp_X12_clean_53 K n53) ih53 σ63 x2 x3 hF H locs ls hP hS (lv_sub hl [1, 2, 3] rfl)
  have B43 : ∀ (L9 : sm_S → Int32 → Int32 → Prop) (hL9 : ∀ (σ : sm_S) (x2 : Int32) (x3 : Int32), L9 σ x2 x3 → sm_J p l e (headSpec wp_X12_clean { frames := 2, cells := 0, slots := 0, locals := 46 }).room s m ([.ref (α.1 1)] : List Value).toArray below meth c (MQ below (va_Qv K (sm_B sm_wM D α) A) ([.ref (α.1 1)] : List Value).toArray s 0 0 A) D A 10 (sm_wM σ α) 9 [(0, .ref (α.1 1)), (2, .int x2), (3, .int x3)] []) (σ : sm_S) (x3 : Int32) (y0 : Int32) (y1 : Int32), mp_X12_clean_43 L9 K σ x3 y0 y1 → sm_J p l e (headSpec wp_X12_clean { frames := 2, cells := 0, slots := 0, locals := 46 }).room s m ([.ref (α.1 1)] : List Value).toArray below meth c (MQ below (va_Qv K (sm_B sm_wM D α) A) ([.ref (α.1 1)] : List Value).toArray s 0 0 A) D A 10 (sm_wM σ α) 43 [(0, .ref (α.1 1)), (3, .int x3)] [.int y1, .int y0] := by
    intro L9 hL9 σ x3 y0 y1 hF H locs ls hP hS hl
    unfold mp_X12_clean_43 at hF
    refine lv_iadd hx hb dX12_clean_43 ?_
    refine lv_topi (fun v64 ev64 => ?_)
    replace hF := hF v64 ev64
    refine lv_istore_n (lv' := [(2, .int v64), (0, .ref (α.1 1)), (3, .int x3)]) hx hb dX12_clean_44 rfl hl (by decide) rfl (fun ls hl => ?_)
    obtain ⟨v65, ev65⟩ : ∃ y : Int32, y = x3 + 1 := ⟨_, rfl⟩
    replace hF := hF v65 ev65
    refine lv_iinc (v := v65) (lv' := [(3, .int v65), (2, .int v64), (0, .ref (α.1 1))]) hx hb dX12_clean_45 hl (k := 2) rfl (by rw [ev65]; rfl) (by decide) rfl (fun ls hl => ?_)
    refine lv_goto (tgt := 9) hx hb dX12_clean_48 (by decide) ?_
    exact hL9 σ v64 v65 hF H locs ls hP hS (lv_sub hl [2, 1, 0] rfl)
  have B9 : ∀ (n : Nat) (σ : sm_S) (x2 : Int32) (x3 : Int32), mp_X12_clean_9 K n σ x2 x3 → sm_J p l e (headSpec wp_X12_clean { frames := 2, cells := 0, slots := 0, locals := 46 }).room s m ([.ref (α.1 1)] : List Value).toArray below meth c (MQ below (va_Qv K (sm_B sm_wM D α) A) ([.ref (α.1 1)] : List Value).toArray s 0 0 A) D A 10 (sm_wM σ α) 9 [(0, .ref (α.1 1)), (2, .int x2), (3, .int x3)] [] := by
    intro n9
    induction n9 with
    | zero =>
      intro σ x2 x3 hF
      exact hF.elim
    | succ n9 ih9 =>
      intro σ x2 x3 hF H locs ls hP hS hl
      unfold mp_X12_clean_9 at hF
      refine lv_iload_n hx hb dX12_clean_9 rfl (lv_at hl 2 rfl) ?_
      refine lv_aload_n hx hb dX12_clean_10 rfl (lv_at hl 0 rfl) ?_
      refine va_get (D := D) (ci := 12) (v := .int (σ.1 11)) (C := RX12) (T := TX12) (N := 42) hx hb hts in_X12 hown hK hP 1 (sm_gX12 σ α) rfl 7 (by decide) k_0 (fun _ h9 => h9) rfl dX12_clean_11 ?_
      refine lv_icmp_ge (tgt := 51) hx hb dX12_clean_14 (by decide) (fun h66 => ?_) (fun h66 => ?_)
      · replace hF := hF.1 h66
        refine lv_iconst (v := 0) hx hb dX12_clean_51 (by decide) ?_
        refine lv_istore_n (lv' := [(3, .int 0), (0, .ref (α.1 1)), (2, .int x2)]) hx hb dX12_clean_52 rfl hl (by decide) rfl (fun ls hl => ?_)
        obtain ⟨n53, hF⟩ := hF
        exact B53 n53 σ x2 0 hF H locs ls hP hS (lv_sub hl [1, 2, 0] rfl)
      · replace hF := hF.2 h66
        refine lv_aload_n hx hb dX12_clean_17 rfl (lv_at hl 0 rfl) ?_
        refine va_get (D := D) (ci := 12) (v := .ref (α.1 32)) (C := RX12) (T := TX12) (N := 42) hx hb hts in_X12 hown hK hP 1 (sm_gX12 σ α) rfl 17 (by decide) k_10 (fun _ h9 => h9) rfl dX12_clean_18 ?_
        refine lv_iload_n hx hb dX12_clean_21 rfl (lv_at hl 2 rfl) ?_
        refine lv_iload_n hx hb dX12_clean_22 rfl (lv_at hl 1 rfl) ?_
        obtain ⟨h67, hF⟩ := hF
        refine va_iast (n := (σ.2.2.1 32)) (f := (σ.2.2.2.1 32)) (x := x2) hx hb hK hP (hD.to (sm_wM_m _ _)) hS 32 30 (sm_aM32 σ α) (sm_yM32 α) h67 dX12_clean_23 (fun H locs hP _ hS => ?_)
        rw [sm_rM32] at hP
        obtain ⟨σ68, eσ68⟩ : ∃ x : sm_S, x = sm_r σ 32 (upd (σ.2.2.2.1 32) x3.toNatClampNeg x2) := ⟨_, rfl⟩
        replace hF := hF σ68 eσ68
        rw [← eσ68] at hP
        refine lv_iload_n hx hb dX12_clean_24 rfl (lv_at hl 1 rfl) ?_
        refine lv_aload_n hx hb dX12_clean_25 rfl (lv_at hl 0 rfl) ?_
        refine va_get (D := D) (ci := 12) (v := .ref (α.1 30)) (C := RX12) (T := TX12) (N := 42) hx hb hts in_X12 hown hK hP 1 (sm_gX12 σ68 α) rfl 13 (by decide) k_2 (fun _ h9 => h9) rfl dX12_clean_26 ?_
        refine lv_iload_n hx hb dX12_clean_29 rfl (lv_at hl 2 rfl) ?_
        obtain ⟨h69, hF⟩ := hF
        refine va_iald (n := (σ68.2.2.1 30)) (f := (σ68.2.2.2.1 30)) hx hb hK hP 30 28 (sm_aM30 σ68 α) (sm_yM30 α) h69 dX12_clean_30 ?_
        refine lv_aload_n hx hb dX12_clean_31 rfl (lv_at hl 0 rfl) ?_
        refine va_get (D := D) (ci := 12) (v := .int (σ68.1 12)) (C := RX12) (T := TX12) (N := 42) hx hb hts in_X12 hown hK hP 1 (sm_gX12 σ68 α) rfl 14 (by decide) k_8 (fun _ h9 => h9) rfl dX12_clean_32 ?_
        refine lv_icmp_ne (tgt := 42) hx hb dX12_clean_35 (by decide) (fun h70 => ?_) (fun h70 => ?_)
        · replace hF := hF.1 h70
          refine lv_iconst (v := 0) hx hb dX12_clean_42 (by decide) ?_
          exact B43 (mp_X12_clean_9 K n9) ih9 σ68 x3 x2 0 hF H locs ls hP hS (lv_sub hl [0, 2] rfl)
        · replace hF := hF.2 h70
          refine lv_iconst (v := 1) hx hb dX12_clean_38 (by decide) ?_
          refine lv_goto (tgt := 43) hx hb dX12_clean_39 (by decide) ?_
          exact B43 (mp_X12_clean_9 K n9) ih9 σ68 x3 x2 1 hF H locs ls hP hS (lv_sub hl [0, 2] rfl)
  unfold mp_X12_clean at hF
  revert hP hS
  generalize hLo : ([] : List Loc) = locs
  suffices h9 : ∀ (H : Heap) (locs : List Loc), va_P D vwCl (sm_wM σ α) H → va_S A s.heap H locs → W p l e (headSpec wp_X12_clean { frames := 2, cells := 0, slots := 0, locals := 46 }).room s m ([.ref (α.1 1)] : List Value).toArray below meth c H locs 0 0 (MQ below (va_Qv K (sm_B sm_wM D α) A) ([.ref (α.1 1)] : List Value).toArray s 0 0 A) (F0 m 0 ls []) from fun hP hS => h9 s.heap locs hP hS
  intro H locs hP hS
  refine lv_aload_n hx hb dX12_clean_0 rfl (lv_at hl 0 rfl) ?_
  refine sm_vi (As := []) (rest := []) hP hK hD hE hS hA ⟨hx, hb, hml, hown, hts⟩ hl.1 (c_X12_reach l D H.size t0 σ α _ hF) (cwV 0 hts wg_X12_clean_X12_reach_288 rfl rfl rfl (by decide +kernel) ⟨Nat.le_of_ble_eq_true rfl, Nat.le_of_ble_eq_true rfl⟩) (va_recv hK hP (ci := 12) (q0 := 1) rfl (sm_gX12 σ α)) rfl rfl (Nat.le_of_ble_eq_true rfl) dX12_clean_1 ⟨Nat.zero_le _, Nat.zero_le _⟩ (fun r72 σ71 H locs hF hP hS => ?_)
  refine lv_istore_n (lv' := [(1, .int r72), (0, .ref (α.1 1))]) hx hb dX12_clean_4 rfl hl (by decide) rfl (fun ls hl => ?_)
  refine lv_iconst (v := 0) hx hb dX12_clean_5 (by decide) ?_
  refine lv_istore_n (lv' := [(2, .int 0), (1, .int r72), (0, .ref (α.1 1))]) hx hb dX12_clean_6 rfl hl (by decide) rfl (fun ls hl => ?_)
  refine lv_iconst (v := 0) hx hb dX12_clean_7 (by decide) ?_
  refine lv_istore_n (lv' := [(3, .int 0), (2, .int 0), (1, .int r72), (0, .ref (α.1 1))]) hx hb dX12_clean_8 rfl hl (by decide) rfl (fun ls hl => ?_)
  obtain ⟨n9, hF⟩ := hF
  exact B9 n9 σ71 0 0 hF H locs ls hP hS (lv_sub hl [3, 1, 0] rfl)
theorem dX12_thing_0 : decode cX12_thing 0 = .ok (.aload_n 0, 1) := by decide +kernel
theorem dX12_thing_1 : decode cX12_thing 1 = .ok (.getfield 247, 3) := by decide +kernel
theorem dX12_thing_4 : decode cX12_thing 4 = .ok (.ldc 179, 2) := by decide +kernel
theorem dX12_thing_6 : decode cX12_thing 6 = .ok (.if_icmp .eq 15, 3) := by decide +kernel
theorem dX12_thing_9 : decode cX12_thing 9 = .ok (.aload_n 0, 1) := by decide +kernel
theorem dX12_thing_10 : decode cX12_thing 10 = .ok (.getfield 250, 3) := by decide +kernel
theorem dX12_thing_13 : decode cX12_thing 13 = .ok (.bipush 16, 2) := by decide +kernel
theorem dX12_thing_15 : decode cX12_thing 15 = .ok (.iadd, 1) := by decide +kernel
theorem dX12_thing_16 : decode cX12_thing 16 = .ok (.ldc 198, 2) := by decide +kernel
theorem dX12_thing_18 : decode cX12_thing 18 = .ok (.if_icmp .le 7, 3) := by decide +kernel
theorem dX12_thing_21 : decode cX12_thing 21 = .ok (.aload_n 0, 1) := by decide +kernel
theorem dX12_thing_22 : decode cX12_thing 22 = .ok (.invokevirtual 310, 3) := by decide +kernel
theorem dX12_thing_25 : decode cX12_thing 25 = .ok (.aload_n 0, 1) := by decide +kernel
theorem dX12_thing_26 : decode cX12_thing 26 = .ok (.getfield 247, 3) := by decide +kernel
theorem dX12_thing_29 : decode cX12_thing 29 = .ok (.istore 5, 2) := by decide +kernel
theorem dX12_thing_31 : decode cX12_thing 31 = .ok (.aload_n 0, 1) := by decide +kernel
theorem dX12_thing_32 : decode cX12_thing 32 = .ok (.dup, 1) := by decide +kernel
theorem dX12_thing_33 : decode cX12_thing 33 = .ok (.getfield 247, 3) := by decide +kernel
theorem dX12_thing_36 : decode cX12_thing 36 = .ok (.iconst 1, 1) := by decide +kernel
theorem dX12_thing_37 : decode cX12_thing 37 = .ok (.iadd, 1) := by decide +kernel
theorem dX12_thing_38 : decode cX12_thing 38 = .ok (.putfield 247, 3) := by decide +kernel
theorem dX12_thing_41 : decode cX12_thing 41 = .ok (.aload_n 0, 1) := by decide +kernel
theorem dX12_thing_42 : decode cX12_thing 42 = .ok (.getfield 180, 3) := by decide +kernel
theorem dX12_thing_45 : decode cX12_thing 45 = .ok (.iload 5, 2) := by decide +kernel
theorem dX12_thing_47 : decode cX12_thing 47 = .ok (.iload_n 1, 1) := by decide +kernel
theorem dX12_thing_48 : decode cX12_thing 48 = .ok (.i2b, 1) := by decide +kernel
theorem dX12_thing_49 : decode cX12_thing 49 = .ok (.bastore, 1) := by decide +kernel
theorem dX12_thing_50 : decode cX12_thing 50 = .ok (.aload_n 0, 1) := by decide +kernel
theorem dX12_thing_51 : decode cX12_thing 51 = .ok (.getfield 183, 3) := by decide +kernel
theorem dX12_thing_54 : decode cX12_thing 54 = .ok (.iload 5, 2) := by decide +kernel
theorem dX12_thing_56 : decode cX12_thing 56 = .ok (.iload_n 2, 1) := by decide +kernel
theorem dX12_thing_57 : decode cX12_thing 57 = .ok (.iastore, 1) := by decide +kernel
theorem dX12_thing_58 : decode cX12_thing 58 = .ok (.aload_n 0, 1) := by decide +kernel
theorem dX12_thing_59 : decode cX12_thing 59 = .ok (.getfield 186, 3) := by decide +kernel
theorem dX12_thing_62 : decode cX12_thing 62 = .ok (.iload 5, 2) := by decide +kernel
theorem dX12_thing_64 : decode cX12_thing 64 = .ok (.iload_n 3, 1) := by decide +kernel
theorem dX12_thing_65 : decode cX12_thing 65 = .ok (.bastore, 1) := by decide +kernel
theorem dX12_thing_66 : decode cX12_thing 66 = .ok (.aload_n 0, 1) := by decide +kernel
theorem dX12_thing_67 : decode cX12_thing 67 = .ok (.getfield 189, 3) := by decide +kernel
theorem dX12_thing_70 : decode cX12_thing 70 = .ok (.iload 5, 2) := by decide +kernel
theorem dX12_thing_72 : decode cX12_thing 72 = .ok (.iload 4, 2) := by decide +kernel
theorem dX12_thing_74 : decode cX12_thing 74 = .ok (.i2b, 1) := by decide +kernel
theorem dX12_thing_75 : decode cX12_thing 75 = .ok (.bastore, 1) := by decide +kernel
theorem dX12_thing_76 : decode cX12_thing 76 = .ok (.aload_n 0, 1) := by decide +kernel
theorem dX12_thing_77 : decode cX12_thing 77 = .ok (.getfield 192, 3) := by decide +kernel
theorem dX12_thing_80 : decode cX12_thing 80 = .ok (.iload 5, 2) := by decide +kernel
theorem dX12_thing_82 : decode cX12_thing 82 = .ok (.aload_n 0, 1) := by decide +kernel
theorem dX12_thing_83 : decode cX12_thing 83 = .ok (.getfield 250, 3) := by decide +kernel
theorem dX12_thing_86 : decode cX12_thing 86 = .ok (.iastore, 1) := by decide +kernel
theorem dX12_thing_87 : decode cX12_thing 87 = .ok (.aload_n 0, 1) := by decide +kernel
theorem dX12_thing_88 : decode cX12_thing 88 = .ok (.iload 5, 2) := by decide +kernel
theorem dX12_thing_90 : decode cX12_thing 90 = .ok (.invokevirtual 304, 3) := by decide +kernel
theorem dX12_thing_93 : decode cX12_thing 93 = .ok (.iconst 1, 1) := by decide +kernel
theorem dX12_thing_94 : decode cX12_thing 94 = .ok (.isub, 1) := by decide +kernel
theorem dX12_thing_95 : decode cX12_thing 95 = .ok (.istore 6, 2) := by decide +kernel
theorem dX12_thing_97 : decode cX12_thing 97 = .ok (.iconst 0, 1) := by decide +kernel
theorem dX12_thing_98 : decode cX12_thing 98 = .ok (.istore 7, 2) := by decide +kernel
theorem dX12_thing_100 : decode cX12_thing 100 = .ok (.iload 7, 2) := by decide +kernel
theorem dX12_thing_102 : decode cX12_thing 102 = .ok (.iload 6, 2) := by decide +kernel
theorem dX12_thing_104 : decode cX12_thing 104 = .ok (.if_icmp .ge 37, 3) := by decide +kernel
theorem dX12_thing_107 : decode cX12_thing 107 = .ok (.aload_n 0, 1) := by decide +kernel
theorem dX12_thing_108 : decode cX12_thing 108 = .ok (.getfield 199, 3) := by decide +kernel
theorem dX12_thing_111 : decode cX12_thing 111 = .ok (.aload_n 0, 1) := by decide +kernel
theorem dX12_thing_112 : decode cX12_thing 112 = .ok (.getfield 250, 3) := by decide +kernel
theorem dX12_thing_115 : decode cX12_thing 115 = .ok (.iload 7, 2) := by decide +kernel
theorem dX12_thing_117 : decode cX12_thing 117 = .ok (.iadd, 1) := by decide +kernel
theorem dX12_thing_118 : decode cX12_thing 118 = .ok (.aload_n 0, 1) := by decide +kernel
theorem dX12_thing_119 : decode cX12_thing 119 = .ok (.iload 5, 2) := by decide +kernel
theorem dX12_thing_121 : decode cX12_thing 121 = .ok (.iload 7, 2) := by decide +kernel
theorem dX12_thing_123 : decode cX12_thing 123 = .ok (.invokevirtual 307, 3) := by decide +kernel
theorem dX12_thing_126 : decode cX12_thing 126 = .ok (.ifCond .eq 7, 3) := by decide +kernel
theorem dX12_thing_129 : decode cX12_thing 129 = .ok (.iconst (-1), 1) := by decide +kernel
theorem dX12_thing_130 : decode cX12_thing 130 = .ok (.goto 4, 3) := by decide +kernel
theorem dX12_thing_133 : decode cX12_thing 133 = .ok (.iconst 0, 1) := by decide +kernel
theorem dX12_thing_134 : decode cX12_thing 134 = .ok (.iastore, 1) := by decide +kernel
theorem dX12_thing_135 : decode cX12_thing 135 = .ok (.iinc 7 1, 3) := by decide +kernel
theorem dX12_thing_138 : decode cX12_thing 138 = .ok (.goto (-38), 3) := by decide +kernel
theorem dX12_thing_141 : decode cX12_thing 141 = .ok (.aload_n 0, 1) := by decide +kernel
theorem dX12_thing_142 : decode cX12_thing 142 = .ok (.dup, 1) := by decide +kernel
theorem dX12_thing_143 : decode cX12_thing 143 = .ok (.getfield 250, 3) := by decide +kernel
theorem dX12_thing_146 : decode cX12_thing 146 = .ok (.iload 6, 2) := by decide +kernel
theorem dX12_thing_148 : decode cX12_thing 148 = .ok (.iadd, 1) := by decide +kernel
theorem dX12_thing_149 : decode cX12_thing 149 = .ok (.putfield 250, 3) := by decide +kernel
theorem dX12_thing_152 : decode cX12_thing 152 = .ok (.iload 5, 2) := by decide +kernel
theorem dX12_thing_154 : decode cX12_thing 154 = .ok (.ireturn, 1) := by decide +kernel
def wp_X12_thing : List Cond := .code yX12_thing cX12_thing 8 (some .int) :: (((([.fieldLink RX12 250 "SteadyMachineModel" "used" "I", .fieldLink RX12 199 "SteadyMachineModel" "cells" "[I", .fieldLink RX12 247 "SteadyMachineModel" "things" "I", .fieldLink RX12 180 "SteadyMachineModel" "sorts" "[B", .fieldLink RX12 183 "SteadyMachineModel" "infos" "[I", .fieldLink RX12 186 "SteadyMachineModel" "refs" "[Z", .fieldLink RX12 189 "SteadyMachineModel" "itemTypes" "[B", .fieldLink RX12 192 "SteadyMachineModel" "begins" "[I", .constant RX12 179 (140000), .constant RX12 198 (300000)] ++ (wsV RX12 307 RX12 yX12_isPart wp_X12_isPart)) ++ (wsV RX12 304 RX12 yX12_cellsOf wp_X12_cellsOf)) ++ (wsV RX12 310 RX12 yX12_clean wp_X12_clean)) ++ wsX120)
theorem wq_X12_thing : wp_X12_thing.all goodWord = true := wa_c rfl (wa_a (wa_a (wa_a (wa_a (by decide +kernel) (wa_V wq_X12_isPart)) (wa_V wq_X12_cellsOf)) (wa_V wq_X12_clean)) uq_X12)
theorem wt_X12_thing : GoodIn lw_tbl wp_X12_thing := wm_c (List.mem_of_getElem? (i := 1720) (by decide +kernel)) rfl (wm_a (wm_a (wm_a (wm_a (goodIn_r _ [1505, 1506, 1497, 1498, 1499, 1500, 1501, 1502, 1487, 1488] (by decide +kernel) (by decide +kernel)) (wm_a (goodIn_r _ [1650, 1652, 107, 147] (by decide +kernel) (by decide +kernel)) wt_X12_isPart)) (wm_a (goodIn_r _ [1646, 1648, 106, 147] (by decide +kernel) (by decide +kernel)) wt_X12_cellsOf)) (wm_a (goodIn_r _ [1721, 1723, 123, 147] (by decide +kernel) (by decide +kernel)) wt_X12_clean)) ut_X12)
theorem wg_X12_thing_X12_isPart_307 : GoodIn wp_X12_thing (wsV RX12 307 RX12 yX12_isPart wp_X12_isPart) := goodIn_sub (fun w h => List.mem_cons_of_mem _ (List.mem_append_left _ (List.mem_append_left _ (List.mem_append_left _ (List.mem_append_right _ h))))) (wa_V wq_X12_isPart)
theorem wg_X12_thing_X12_cellsOf_304 : GoodIn wp_X12_thing (wsV RX12 304 RX12 yX12_cellsOf wp_X12_cellsOf) := goodIn_sub (fun w h => List.mem_cons_of_mem _ (List.mem_append_left _ (List.mem_append_left _ (List.mem_append_right _ h)))) (wa_V wq_X12_cellsOf)
theorem wg_X12_thing_X12_clean_310 : GoodIn wp_X12_thing (wsV RX12 310 RX12 yX12_clean wp_X12_clean) := goodIn_sub (fun w h => List.mem_cons_of_mem _ (List.mem_append_left _ (List.mem_append_right _ h))) (wa_V wq_X12_clean)
theorem wi_X12_thing_X12 : ∀ w ∈ wsX120, w ∈ wp_X12_thing := fun w h => List.mem_cons_of_mem _ (List.mem_append_right _ h)
set_option maxHeartbeats 4000000 in
set_option maxRecDepth 100000 in
theorem c_X12_thing (l : Launch) (D : va_G) (sz t0 : Nat) (σ : sm_S) (α : sm_A) (p1 : Int32) (p2 : Int32) (p3 : Int32) (p4 : Int32) (K : Int32 → sm_S → Prop) (hF : mp_X12_thing σ p1 p2 p3 p4 K) : Met l yX12_thing wp_X12_thing { frames := 3, cells := 0, slots := 0, locals := 75 } (sm_P sm_wM sm_tM 40 D sz t0 σ α [.ref (α.1 1), .int p1, .int p2, .int p3, .int p4]) (va_Qi K (sm_B sm_wM D α) (sm_a α 40 sz)) 0 0 (sm_a α 40 sz) := by
  refine Met.ofW (cc := cX12_thing) (maxL := 8) (ret := (some .int)) (by decide) rfl ?_
  intro p e s m args below meth c s₁ B hml hv
  obtain ⟨rfl, hsz, hP, hK, hD0, hE⟩ := hv
  have hx := B.exec
  have hb := B.bytes
  have hr := B.returns
  have hts := atoms_spec (ws := wp_X12_thing) B.pre
  have hown : s.vm.findClass RX12 = some m.cls := findClass_of_methodNamed B.named
  have hlocks := B.notSynchronized
  subst hsz
  have hD : sm_D (sm_a α 40 s.heap.size) α 40 := hD0.own
  have hA : ∀ q : Nat, s.heap.size ≤ q → sm_a α 40 s.heap.size q := fun q h => Or.inr h
  generalize hAe : sm_a α 40 s.heap.size = A at hD hA hE ⊢
  have hS : va_S A s.heap s.heap [] := va_S.rf
  have in_X12 : ∀ w ∈ wsX120, w ∈ wp_X12_thing := wi_X12_thing_X12
  have k_0 := hts (.fieldLink RX12 250 "SteadyMachineModel" "used" "I") (by decide +kernel)
  have k_1 := hts (.fieldLink RX12 199 "SteadyMachineModel" "cells" "[I") (by decide +kernel)
  have k_2 := hts (.fieldLink RX12 247 "SteadyMachineModel" "things" "I") (by decide +kernel)
  have k_3 := hts (.fieldLink RX12 180 "SteadyMachineModel" "sorts" "[B") (by decide +kernel)
  have k_4 := hts (.fieldLink RX12 183 "SteadyMachineModel" "infos" "[I") (by decide +kernel)
  have k_5 := hts (.fieldLink RX12 186 "SteadyMachineModel" "refs" "[Z") (by decide +kernel)
  have k_6 := hts (.fieldLink RX12 189 "SteadyMachineModel" "itemTypes" "[B") (by decide +kernel)
  have k_7 := hts (.fieldLink RX12 192 "SteadyMachineModel" "begins" "[I") (by decide +kernel)
  have k_8 := hts (.constant RX12 179 (140000)) (by decide +kernel)
  have k_9 := hts (.constant RX12 198 (300000)) (by decide +kernel)
  have hl := lv_entry ([.ref (α.1 1), .int p1, .int p2, .int p3, .int p4]) (n := 8) (Nat.le_of_ble_eq_true rfl)
  rw [lg_entry_eq]
  generalize (lg_sl ([.ref (α.1 1), .int p1, .int p2, .int p3, .int p4]) ++ List.replicate (8 - (lg_sl ([.ref (α.1 1), .int p1, .int p2, .int p3, .int p4])).length) Slot.unset).toArray = ls at hl ⊢
  have hl : lv_has ls 8 [(0, .ref (α.1 1)), (1, .int p1), (2, .int p2), (3, .int p3), (4, .int p4)] := hl
  have B134 : ∀ (L100 : sm_S → Int32 → Int32 → Int32 → Prop) (hL100 : ∀ (σ : sm_S) (x5 : Int32) (x6 : Int32) (x7 : Int32), L100 σ x5 x6 x7 → sm_J p l e (headSpec wp_X12_thing { frames := 3, cells := 0, slots := 0, locals := 75 }).room s m ([.ref (α.1 1), .int p1, .int p2, .int p3, .int p4] : List Value).toArray below meth c (MQ below (va_Qi K (sm_B sm_wM D α) A) ([.ref (α.1 1), .int p1, .int p2, .int p3, .int p4] : List Value).toArray s 0 0 A) D A 8 (sm_wM σ α) 100 [(0, .ref (α.1 1)), (5, .int x5), (6, .int x6), (7, .int x7)] []) (σ : sm_S) (x5 : Int32) (x6 : Int32) (x7 : Int32) (y1 : Int32) (y2 : Int32), mp_X12_thing_134 L100 K σ x5 x6 x7 y1 y2 → sm_J p l e (headSpec wp_X12_thing { frames := 3, cells := 0, slots := 0, locals := 75 }).room s m ([.ref (α.1 1), .int p1, .int p2, .int p3, .int p4] : List Value).toArray below meth c (MQ below (va_Qi K (sm_B sm_wM D α) A) ([.ref (α.1 1), .int p1, .int p2, .int p3, .int p4] : List Value).toArray s 0 0 A) D A 8 (sm_wM σ α) 134 [(0, .ref (α.1 1)), (5, .int x5), (6, .int x6), (7, .int x7)] [.int y2, .int y1, .ref (α.1 31)] := by
    intro L100 hL100 σ x5 x6 x7 y1 y2 hF H locs ls hP hS hl
    unfold mp_X12_thing_134 at hF
    obtain ⟨h1, hF⟩ := hF
    refine va_iast (n := (σ.2.2.1 31)) (f := (σ.2.2.2.1 31)) (x := y2) hx hb hK hP (hD.to (sm_wM_m _ _)) hS 31 29 (sm_aM31 σ α) (sm_yM31 α) h1 dX12_thing_134 (fun H locs hP _ hS => ?_)
    rw [sm_rM31] at hP
    obtain ⟨σ2, eσ2⟩ : ∃ x : sm_S, x = sm_r σ 31 (upd (σ.2.2.2.1 31) y1.toNatClampNeg y2) := ⟨_, rfl⟩
    replace hF := hF σ2 eσ2
    rw [← eσ2] at hP
    obtain ⟨v3, ev3⟩ : ∃ y : Int32, y = x7 + 1 := ⟨_, rfl⟩
    replace hF := hF v3 ev3
    refine lv_iinc (v := v3) (lv' := [(7, .int v3), (0, .ref (α.1 1)), (5, .int x5), (6, .int x6)]) hx hb dX12_thing_135 hl (k := 3) rfl (by rw [ev3]; rfl) (by decide) rfl (fun ls hl => ?_)
    refine lv_goto (tgt := 100) hx hb dX12_thing_138 (by decide) ?_
    exact hL100 σ2 x5 x6 v3 hF H locs ls hP hS (lv_sub hl [1, 2, 3, 0] rfl)
  have B100 : ∀ (n : Nat) (σ : sm_S) (x5 : Int32) (x6 : Int32) (x7 : Int32), mp_X12_thing_100 K n σ x5 x6 x7 → sm_J p l e (headSpec wp_X12_thing { frames := 3, cells := 0, slots := 0, locals := 75 }).room s m ([.ref (α.1 1), .int p1, .int p2, .int p3, .int p4] : List Value).toArray below meth c (MQ below (va_Qi K (sm_B sm_wM D α) A) ([.ref (α.1 1), .int p1, .int p2, .int p3, .int p4] : List Value).toArray s 0 0 A) D A 8 (sm_wM σ α) 100 [(0, .ref (α.1 1)), (5, .int x5), (6, .int x6), (7, .int x7)] [] := by
    intro n100
    induction n100 with
    | zero =>
      intro σ x5 x6 x7 hF
      exact hF.elim
    | succ n100 ih100 =>
      intro σ x5 x6 x7 hF H locs ls hP hS hl
      unfold mp_X12_thing_100 at hF
      refine lv_iload hx hb dX12_thing_100 (lv_at hl 3 rfl) ?_
      refine lv_iload hx hb dX12_thing_102 (lv_at hl 2 rfl) ?_
      refine lv_icmp_ge (tgt := 141) hx hb dX12_thing_104 (by decide) (fun h4 => ?_) (fun h4 => ?_)
      · replace hF := hF.1 h4
        refine lv_aload_n hx hb dX12_thing_141 rfl (lv_at hl 0 rfl) ?_
        refine lv_dup hx hb dX12_thing_142 rfl ?_
        refine va_get (D := D) (ci := 12) (v := .int (σ.1 13)) (C := RX12) (T := TX12) (N := 42) hx hb hts in_X12 hown hK hP 1 (sm_gX12 σ α) rfl 15 (by decide) k_0 (fun _ h9 => h9) rfl dX12_thing_143 ?_
        refine lv_iload hx hb dX12_thing_146 (lv_at hl 2 rfl) ?_
        refine lv_iadd hx hb dX12_thing_148 ?_
        refine va_put (D := D) (ci := 12) (v := .int ((σ.1 13) + x6)) (ty := .int) (C := RX12) (T := TX12) (N := 42) hx hb hts in_X12 tyX12 tyX12_ok nmX12 hown hK hP (hD.to (sm_wM_m _ _)) hS 1 (sm_gX12 σ α) rfl 15 (by decide) k_0 (fun _ h9 => h9) rfl (by decide +kernel) rfl rfl (Nat.le_of_ble_eq_true rfl) dX12_thing_149 (fun H locs hP _ hS => ?_)
        rw [sm_iM13] at hP
        obtain ⟨σ5, eσ5⟩ : ∃ x : sm_S, x = sm_i σ 13 ((σ.1 13) + x6) := ⟨_, rfl⟩
        replace hF := hF σ5 eσ5
        rw [← eσ5] at hP
        refine lv_iload hx hb dX12_thing_152 (lv_at hl 1 rfl) ?_
        exact W.iret (v := x5) hx hb hr (fun t ht hW => ⟨⟨x5, σ5, rfl, hF, (by unfold sm_B; rw [ht]; exact hP)⟩, hS.F ht⟩) hS.2.2 dX12_thing_154
      · replace hF := hF.2 h4
        refine lv_aload_n hx hb dX12_thing_107 rfl (lv_at hl 0 rfl) ?_
        refine va_get (D := D) (ci := 12) (v := .ref (α.1 31)) (C := RX12) (T := TX12) (N := 42) hx hb hts in_X12 hown hK hP 1 (sm_gX12 σ α) rfl 16 (by decide) k_1 (fun _ h9 => h9) rfl dX12_thing_108 ?_
        refine lv_aload_n hx hb dX12_thing_111 rfl (lv_at hl 0 rfl) ?_
        refine va_get (D := D) (ci := 12) (v := .int (σ.1 13)) (C := RX12) (T := TX12) (N := 42) hx hb hts in_X12 hown hK hP 1 (sm_gX12 σ α) rfl 15 (by decide) k_0 (fun _ h9 => h9) rfl dX12_thing_112 ?_
        refine lv_iload hx hb dX12_thing_115 (lv_at hl 3 rfl) ?_
        refine lv_iadd hx hb dX12_thing_117 ?_
        refine lv_aload_n hx hb dX12_thing_118 rfl (lv_at hl 0 rfl) ?_
        refine lv_iload hx hb dX12_thing_119 (lv_at hl 1 rfl) ?_
        refine lv_iload hx hb dX12_thing_121 (lv_at hl 3 rfl) ?_
        refine sm_vi (As := [.int x5, .int x7]) (rest := [.int ((σ.1 13) + x7), .ref (α.1 31)]) hP hK hD hE hS hA ⟨hx, hb, hml, hown, hts⟩ hl.1 (c_X12_isPart l D H.size t0 σ α x5 x7 _ hF) (cwV 2 hts wg_X12_thing_X12_isPart_307 rfl rfl rfl (by decide +kernel) ⟨Nat.le_of_ble_eq_true rfl, Nat.le_of_ble_eq_true rfl⟩) (va_recv hK hP (ci := 12) (q0 := 1) rfl (sm_gX12 σ α)) rfl rfl (Nat.le_of_ble_eq_true rfl) dX12_thing_123 ⟨Nat.zero_le _, Nat.zero_le _⟩ (fun r7 σ6 H locs hF hP hS => ?_)
        refine lv_if_eq (tgt := 133) hx hb dX12_thing_126 (by decide) (fun h8 => ?_) (fun h8 => ?_)
        · replace hF := hF.1 h8
          refine lv_iconst (v := 0) hx hb dX12_thing_133 (by decide) ?_
          exact B134 (mp_X12_thing_100 K n100) ih100 σ6 x5 x6 x7 ((σ.1 13) + x7) 0 hF H locs ls hP hS (lv_sub hl [0, 1, 2, 3] rfl)
        · replace hF := hF.2 h8
          refine lv_iconst (v := -1) hx hb dX12_thing_129 (by decide) ?_
          refine lv_goto (tgt := 134) hx hb dX12_thing_130 (by decide) ?_
          exact B134 (mp_X12_thing_100 K n100) ih100 σ6 x5 x6 x7 ((σ.1 13) + x7) (-1) hF H locs ls hP hS (lv_sub hl [0, 1, 2, 3] rfl)
  have B25 : ∀ (σ : sm_S) (x1 : Int32) (x2 : Int32) (x3 : Int32) (x4 : Int32), mp_X12_thing_25 K σ x1 x2 x3 x4 → sm_J p l e (headSpec wp_X12_thing { frames := 3, cells := 0, slots := 0, locals := 75 }).room s m ([.ref (α.1 1), .int p1, .int p2, .int p3, .int p4] : List Value).toArray below meth c (MQ below (va_Qi K (sm_B sm_wM D α) A) ([.ref (α.1 1), .int p1, .int p2, .int p3, .int p4] : List Value).toArray s 0 0 A) D A 8 (sm_wM σ α) 25 [(0, .ref (α.1 1)), (1, .int x1), (2, .int x2), (3, .int x3), (4, .int x4)] [] := by
    intro σ x1 x2 x3 x4 hF H locs ls hP hS hl
    unfold mp_X12_thing_25 at hF
    refine lv_aload_n hx hb dX12_thing_25 rfl (lv_at hl 0 rfl) ?_
    refine va_get (D := D) (ci := 12) (v := .int (σ.1 11)) (C := RX12) (T := TX12) (N := 42) hx hb hts in_X12 hown hK hP 1 (sm_gX12 σ α) rfl 7 (by decide) k_2 (fun _ h9 => h9) rfl dX12_thing_26 ?_
    refine lv_topi (fun v9 ev9 => ?_)
    replace hF := hF v9 ev9
    refine lv_istore (lv' := [(5, .int v9), (0, .ref (α.1 1)), (1, .int x1), (2, .int x2), (3, .int x3), (4, .int x4)]) hx hb dX12_thing_29 hl (by decide) rfl (fun ls hl => ?_)
    refine lv_aload_n hx hb dX12_thing_31 rfl (lv_at hl 1 rfl) ?_
    refine lv_dup hx hb dX12_thing_32 rfl ?_
    refine va_get (D := D) (ci := 12) (v := .int (σ.1 11)) (C := RX12) (T := TX12) (N := 42) hx hb hts in_X12 hown hK hP 1 (sm_gX12 σ α) rfl 7 (by decide) k_2 (fun _ h9 => h9) rfl dX12_thing_33 ?_
    refine lv_iconst (v := 1) hx hb dX12_thing_36 (by decide) ?_
    refine lv_iadd hx hb dX12_thing_37 ?_
    refine va_put (D := D) (ci := 12) (v := .int ((σ.1 11) + 1)) (ty := .int) (C := RX12) (T := TX12) (N := 42) hx hb hts in_X12 tyX12 tyX12_ok nmX12 hown hK hP (hD.to (sm_wM_m _ _)) hS 1 (sm_gX12 σ α) rfl 7 (by decide) k_2 (fun _ h9 => h9) rfl (by decide +kernel) rfl rfl (Nat.le_of_ble_eq_true rfl) dX12_thing_38 (fun H locs hP _ hS => ?_)
    rw [sm_iM11] at hP
    obtain ⟨σ10, eσ10⟩ : ∃ x : sm_S, x = sm_i σ 11 ((σ.1 11) + 1) := ⟨_, rfl⟩
    replace hF := hF σ10 eσ10
    rw [← eσ10] at hP
    refine lv_aload_n hx hb dX12_thing_41 rfl (lv_at hl 1 rfl) ?_
    refine va_get (D := D) (ci := 12) (v := .ref (α.1 25)) (C := RX12) (T := TX12) (N := 42) hx hb hts in_X12 hown hK hP 1 (sm_gX12 σ10 α) rfl 8 (by decide) k_3 (fun _ h9 => h9) rfl dX12_thing_42 ?_
    refine lv_iload hx hb dX12_thing_45 (lv_at hl 0 rfl) ?_
    refine lv_iload_n hx hb dX12_thing_47 rfl (lv_at hl 2 rfl) ?_
    refine lv_i2b hx hb dX12_thing_48 rfl ?_
    obtain ⟨h11, hF⟩ := hF
    refine va_bast (n := (σ10.2.2.1 25)) (f := (σ10.2.2.2.1 25)) (x := x1.toInt8.toInt32) hx hb hK hP (hD.to (sm_wM_m _ _)) hS 25 23 (sm_aM25 σ10 α) (sm_yM25 α) h11 dX12_thing_49 (fun H locs hP _ hS => ?_)
    rw [sm_rM25] at hP
    obtain ⟨σ12, eσ12⟩ : ∃ x : sm_S, x = sm_r σ10 25 (upd (σ10.2.2.2.1 25) v9.toNatClampNeg (vp_nar .byte x1.toInt8.toInt32)) := ⟨_, rfl⟩
    replace hF := hF σ12 eσ12
    rw [← eσ12] at hP
    refine lv_aload_n hx hb dX12_thing_50 rfl (lv_at hl 1 rfl) ?_
    refine va_get (D := D) (ci := 12) (v := .ref (α.1 26)) (C := RX12) (T := TX12) (N := 42) hx hb hts in_X12 hown hK hP 1 (sm_gX12 σ12 α) rfl 9 (by decide) k_4 (fun _ h9 => h9) rfl dX12_thing_51 ?_
    refine lv_iload hx hb dX12_thing_54 (lv_at hl 0 rfl) ?_
    refine lv_iload_n hx hb dX12_thing_56 rfl (lv_at hl 3 rfl) ?_
    obtain ⟨h13, hF⟩ := hF
    refine va_iast (n := (σ12.2.2.1 26)) (f := (σ12.2.2.2.1 26)) (x := x2) hx hb hK hP (hD.to (sm_wM_m _ _)) hS 26 24 (sm_aM26 σ12 α) (sm_yM26 α) h13 dX12_thing_57 (fun H locs hP _ hS => ?_)
    rw [sm_rM26] at hP
    obtain ⟨σ14, eσ14⟩ : ∃ x : sm_S, x = sm_r σ12 26 (upd (σ12.2.2.2.1 26) v9.toNatClampNeg x2) := ⟨_, rfl⟩
    replace hF := hF σ14 eσ14
    rw [← eσ14] at hP
    refine lv_aload_n hx hb dX12_thing_58 rfl (lv_at hl 1 rfl) ?_
    refine va_get (D := D) (ci := 12) (v := .ref (α.1 27)) (C := RX12) (T := TX12) (N := 42) hx hb hts in_X12 hown hK hP 1 (sm_gX12 σ14 α) rfl 10 (by decide) k_5 (fun _ h9 => h9) rfl dX12_thing_59 ?_
    refine lv_iload hx hb dX12_thing_62 (lv_at hl 0 rfl) ?_
    refine lv_iload_n hx hb dX12_thing_64 rfl (lv_at hl 4 rfl) ?_
    obtain ⟨h15, hF⟩ := hF
    refine va_zast (n := (σ14.2.2.1 27)) (f := (σ14.2.2.2.1 27)) (x := x3) hx hb hK hP (hD.to (sm_wM_m _ _)) hS 27 25 (sm_aM27 σ14 α) (sm_yM27 α) h15 dX12_thing_65 (fun H locs hP _ hS => ?_)
    rw [sm_rM27] at hP
    obtain ⟨σ16, eσ16⟩ : ∃ x : sm_S, x = sm_r σ14 27 (upd (σ14.2.2.2.1 27) v9.toNatClampNeg (vp_nar .boolean x3)) := ⟨_, rfl⟩
    replace hF := hF σ16 eσ16
    rw [← eσ16] at hP
    refine lv_aload_n hx hb dX12_thing_66 rfl (lv_at hl 1 rfl) ?_
    refine va_get (D := D) (ci := 12) (v := .ref (α.1 28)) (C := RX12) (T := TX12) (N := 42) hx hb hts in_X12 hown hK hP 1 (sm_gX12 σ16 α) rfl 11 (by decide) k_6 (fun _ h9 => h9) rfl dX12_thing_67 ?_
    refine lv_iload hx hb dX12_thing_70 (lv_at hl 0 rfl) ?_
    refine lv_iload hx hb dX12_thing_72 (lv_at hl 5 rfl) ?_
    refine lv_i2b hx hb dX12_thing_74 rfl ?_
    obtain ⟨h17, hF⟩ := hF
    refine va_bast (n := (σ16.2.2.1 28)) (f := (σ16.2.2.2.1 28)) (x := x4.toInt8.toInt32) hx hb hK hP (hD.to (sm_wM_m _ _)) hS 28 26 (sm_aM28 σ16 α) (sm_yM28 α) h17 dX12_thing_75 (fun H locs hP _ hS => ?_)
    rw [sm_rM28] at hP
    obtain ⟨σ18, eσ18⟩ : ∃ x : sm_S, x = sm_r σ16 28 (upd (σ16.2.2.2.1 28) v9.toNatClampNeg (vp_nar .byte x4.toInt8.toInt32)) := ⟨_, rfl⟩
    replace hF := hF σ18 eσ18
    rw [← eσ18] at hP
    refine lv_aload_n hx hb dX12_thing_76 rfl (lv_at hl 1 rfl) ?_
    refine va_get (D := D) (ci := 12) (v := .ref (α.1 29)) (C := RX12) (T := TX12) (N := 42) hx hb hts in_X12 hown hK hP 1 (sm_gX12 σ18 α) rfl 12 (by decide) k_7 (fun _ h9 => h9) rfl dX12_thing_77 ?_
    refine lv_iload hx hb dX12_thing_80 (lv_at hl 0 rfl) ?_
    refine lv_aload_n hx hb dX12_thing_82 rfl (lv_at hl 1 rfl) ?_
    refine va_get (D := D) (ci := 12) (v := .int (σ18.1 13)) (C := RX12) (T := TX12) (N := 42) hx hb hts in_X12 hown hK hP 1 (sm_gX12 σ18 α) rfl 15 (by decide) k_0 (fun _ h9 => h9) rfl dX12_thing_83 ?_
    obtain ⟨h19, hF⟩ := hF
    refine va_iast (n := (σ18.2.2.1 29)) (f := (σ18.2.2.2.1 29)) (x := (σ18.1 13)) hx hb hK hP (hD.to (sm_wM_m _ _)) hS 29 27 (sm_aM29 σ18 α) (sm_yM29 α) h19 dX12_thing_86 (fun H locs hP _ hS => ?_)
    rw [sm_rM29] at hP
    obtain ⟨σ20, eσ20⟩ : ∃ x : sm_S, x = sm_r σ18 29 (upd (σ18.2.2.2.1 29) v9.toNatClampNeg (σ18.1 13)) := ⟨_, rfl⟩
    replace hF := hF σ20 eσ20
    rw [← eσ20] at hP
    refine lv_aload_n hx hb dX12_thing_87 rfl (lv_at hl 1 rfl) ?_
    refine lv_iload hx hb dX12_thing_88 (lv_at hl 0 rfl) ?_
    refine sm_vi (As := [.int v9]) (rest := []) hP hK hD hE hS hA ⟨hx, hb, hml, hown, hts⟩ hl.1 (c_X12_cellsOf l D H.size t0 σ20 α v9 _ hF) (cwV 1 hts wg_X12_thing_X12_cellsOf_304 rfl rfl rfl (by decide +kernel) ⟨Nat.le_of_ble_eq_true rfl, Nat.le_of_ble_eq_true rfl⟩) (va_recv hK hP (ci := 12) (q0 := 1) rfl (sm_gX12 σ20 α)) rfl rfl (Nat.le_of_ble_eq_true rfl) dX12_thing_90 ⟨Nat.zero_le _, Nat.zero_le _⟩ (fun r22 σ21 H locs hF hP hS => ?_)
    refine lv_iconst (v := 1) hx hb dX12_thing_93 (by decide) ?_
    refine lv_isub hx hb dX12_thing_94 ?_
    refine lv_topi (fun v23 ev23 => ?_)
    replace hF := hF v23 ev23
    refine lv_istore (lv' := [(6, .int v23), (5, .int v9), (0, .ref (α.1 1)), (1, .int x1), (2, .int x2), (3, .int x3), (4, .int x4)]) hx hb dX12_thing_95 hl (by decide) rfl (fun ls hl => ?_)
    refine lv_iconst (v := 0) hx hb dX12_thing_97 (by decide) ?_
    refine lv_istore (lv' := [(7, .int 0), (6, .int v23), (5, .int v9), (0, .ref (α.1 1)), (1, .int x1), (2, .int x2), (3, .int x3), (4, .int x4)]) hx hb dX12_thing_98 hl (by decide) rfl (fun ls hl => ?_)
    obtain ⟨n100, hF⟩ := hF
    exact B100 n100 σ21 v9 v23 0 hF H locs ls hP hS (lv_sub hl [3, 2, 1, 0] rfl)
  have B21 : ∀ (σ : sm_S) (x1 : Int32) (x2 : Int32) (x3 : Int32) (x4 : Int32), mp_X12_thing_21 K σ x1 x2 x3 x4 → sm_J p l e (headSpec wp_X12_thing { frames := 3, cells := 0, slots := 0, locals := 75 }).room s m ([.ref (α.1 1), .int p1, .int p2, .int p3, .int p4] : List Value).toArray below meth c (MQ below (va_Qi K (sm_B sm_wM D α) A) ([.ref (α.1 1), .int p1, .int p2, .int p3, .int p4] : List Value).toArray s 0 0 A) D A 8 (sm_wM σ α) 21 [(0, .ref (α.1 1)), (1, .int x1), (2, .int x2), (3, .int x3), (4, .int x4)] [] := by
    intro σ x1 x2 x3 x4 hF H locs ls hP hS hl
    unfold mp_X12_thing_21 at hF
    refine lv_aload_n hx hb dX12_thing_21 rfl (lv_at hl 0 rfl) ?_
    refine sm_vv (As := []) (rest := []) hP hK hD hE hS hA ⟨hx, hb, hml, hown, hts⟩ hl.1 (c_X12_clean l D H.size t0 σ α _ hF) (cwV 0 hts wg_X12_thing_X12_clean_310 rfl rfl rfl (by decide +kernel) ⟨Nat.le_of_ble_eq_true rfl, Nat.le_of_ble_eq_true rfl⟩) (va_recv hK hP (ci := 12) (q0 := 1) rfl (sm_gX12 σ α)) rfl rfl (Nat.le_of_ble_eq_true rfl) dX12_thing_22 ⟨Nat.zero_le _, Nat.zero_le _⟩ (fun σ24 H locs hF hP hS => ?_)
    exact B25 σ24 x1 x2 x3 x4 hF H locs ls hP hS (lv_sub hl [0, 1, 2, 3, 4] rfl)
  unfold mp_X12_thing at hF
  revert hP hS
  generalize hLo : ([] : List Loc) = locs
  suffices h9 : ∀ (H : Heap) (locs : List Loc), va_P D vwCl (sm_wM σ α) H → va_S A s.heap H locs → W p l e (headSpec wp_X12_thing { frames := 3, cells := 0, slots := 0, locals := 75 }).room s m ([.ref (α.1 1), .int p1, .int p2, .int p3, .int p4] : List Value).toArray below meth c H locs 0 0 (MQ below (va_Qi K (sm_B sm_wM D α) A) ([.ref (α.1 1), .int p1, .int p2, .int p3, .int p4] : List Value).toArray s 0 0 A) (F0 m 0 ls []) from fun hP hS => h9 s.heap locs hP hS
  intro H locs hP hS
  refine lv_aload_n hx hb dX12_thing_0 rfl (lv_at hl 0 rfl) ?_
  refine va_get (D := D) (ci := 12) (v := .int (σ.1 11)) (C := RX12) (T := TX12) (N := 42) hx hb hts in_X12 hown hK hP 1 (sm_gX12 σ α) rfl 7 (by decide) k_2 (fun _ h9 => h9) rfl dX12_thing_1 ?_
  refine lv_ldc (v := 140000) hx hb hown k_8 dX12_thing_4 ?_
  refine lv_icmp_eq (tgt := 21) hx hb dX12_thing_6 (by decide) (fun h25 => ?_) (fun h25 => ?_)
  · replace hF := hF.1 h25
    exact B21 σ p1 p2 p3 p4 hF H locs ls hP hS (lv_sub hl [0, 1, 2, 3, 4] rfl)
  · replace hF := hF.2 h25
    refine lv_aload_n hx hb dX12_thing_9 rfl (lv_at hl 0 rfl) ?_
    refine va_get (D := D) (ci := 12) (v := .int (σ.1 13)) (C := RX12) (T := TX12) (N := 42) hx hb hts in_X12 hown hK hP 1 (sm_gX12 σ α) rfl 15 (by decide) k_0 (fun _ h9 => h9) rfl dX12_thing_10 ?_
    refine lv_bipush (v := 16) hx hb dX12_thing_13 (by decide) ?_
    refine lv_iadd hx hb dX12_thing_15 ?_
    refine lv_ldc (v := 300000) hx hb hown k_9 dX12_thing_16 ?_
    refine lv_icmp_le (tgt := 25) hx hb dX12_thing_18 (by decide) (fun h26 => ?_) (fun h26 => ?_)
    · replace hF := hF.1 h26
      exact B25 σ p1 p2 p3 p4 hF H locs ls hP hS (lv_sub hl [0, 1, 2, 3, 4] rfl)
    · replace hF := hF.2 h26
      exact B21 σ p1 p2 p3 p4 hF H locs ls hP hS (lv_sub hl [0, 1, 2, 3, 4] rfl)
theorem dX12_object_0 : decode cX12_object 0 = .ok (.aload_n 0, 1) := by decide +kernel
theorem dX12_object_1 : decode cX12_object 1 = .ok (.iconst 0, 1) := by decide +kernel
theorem dX12_object_2 : decode cX12_object 2 = .ok (.iload_n 1, 1) := by decide +kernel
theorem dX12_object_3 : decode cX12_object 3 = .ok (.iconst 0, 1) := by decide +kernel
theorem dX12_object_4 : decode cX12_object 4 = .ok (.iconst 0, 1) := by decide +kernel
theorem dX12_object_5 : decode cX12_object 5 = .ok (.invokevirtual 313, 3) := by decide +kernel
theorem dX12_object_8 : decode cX12_object 8 = .ok (.ireturn, 1) := by decide +kernel
def wp_X12_object : List Cond := .code yX12_object cX12_object 2 (some .int) :: ([] ++ (wsV RX12 313 RX12 yX12_thing wp_X12_thing))
theorem wq_X12_object : wp_X12_object.all goodWord = true := wa_c rfl (wa_a (by decide +kernel) (wa_V wq_X12_thing))
theorem wt_X12_object : GoodIn lw_tbl wp_X12_object := wm_c (List.mem_of_getElem? (i := 1716) (by decide +kernel)) rfl (wm_a (goodIn_r _ [] (by decide +kernel) (by decide +kernel)) (wm_a (goodIn_r _ [1717, 1719, 122, 147] (by decide +kernel) (by decide +kernel)) wt_X12_thing))
theorem wg_X12_object_X12_thing_313 : GoodIn wp_X12_object (wsV RX12 313 RX12 yX12_thing wp_X12_thing) := goodIn_sub (fun w h => List.mem_cons_of_mem _ (List.mem_append_right _ h)) (wa_V wq_X12_thing)
set_option maxHeartbeats 4000000 in
set_option maxRecDepth 100000 in
theorem c_X12_object (l : Launch) (D : va_G) (sz t0 : Nat) (σ : sm_S) (α : sm_A) (p1 : Int32) (K : Int32 → sm_S → Prop) (hF : mp_X12_object σ p1 K) : Met l yX12_object wp_X12_object { frames := 4, cells := 0, slots := 0, locals := 102 } (sm_P sm_wM sm_tM 40 D sz t0 σ α [.ref (α.1 1), .int p1]) (va_Qi K (sm_B sm_wM D α) (sm_a α 40 sz)) 0 0 (sm_a α 40 sz) := by
  refine Met.ofW (cc := cX12_object) (maxL := 2) (ret := (some .int)) (by decide) rfl ?_
  intro p e s m args below meth c s₁ B hml hv
  obtain ⟨rfl, hsz, hP, hK, hD0, hE⟩ := hv
  have hx := B.exec
  have hb := B.bytes
  have hr := B.returns
  have hts := atoms_spec (ws := wp_X12_object) B.pre
  have hown : s.vm.findClass RX12 = some m.cls := findClass_of_methodNamed B.named
  have hlocks := B.notSynchronized
  subst hsz
  have hD : sm_D (sm_a α 40 s.heap.size) α 40 := hD0.own
  have hA : ∀ q : Nat, s.heap.size ≤ q → sm_a α 40 s.heap.size q := fun q h => Or.inr h
  generalize hAe : sm_a α 40 s.heap.size = A at hD hA hE ⊢
  have hS : va_S A s.heap s.heap [] := va_S.rf
  have hl := lv_entry ([.ref (α.1 1), .int p1]) (n := 2) (Nat.le_of_ble_eq_true rfl)
  rw [lg_entry_eq]
  generalize (lg_sl ([.ref (α.1 1), .int p1]) ++ List.replicate (2 - (lg_sl ([.ref (α.1 1), .int p1])).length) Slot.unset).toArray = ls at hl ⊢
  have hl : lv_has ls 2 [(0, .ref (α.1 1)), (1, .int p1)] := hl
  unfold mp_X12_object at hF
  revert hP hS
  generalize hLo : ([] : List Loc) = locs
  suffices h9 : ∀ (H : Heap) (locs : List Loc), va_P D vwCl (sm_wM σ α) H → va_S A s.heap H locs → W p l e (headSpec wp_X12_object { frames := 4, cells := 0, slots := 0, locals := 102 }).room s m ([.ref (α.1 1), .int p1] : List Value).toArray below meth c H locs 0 0 (MQ below (va_Qi K (sm_B sm_wM D α) A) ([.ref (α.1 1), .int p1] : List Value).toArray s 0 0 A) (F0 m 0 ls []) from fun hP hS => h9 s.heap locs hP hS
  intro H locs hP hS
  refine lv_aload_n hx hb dX12_object_0 rfl (lv_at hl 0 rfl) ?_
  refine lv_iconst (v := 0) hx hb dX12_object_1 (by decide) ?_
  refine lv_iload_n hx hb dX12_object_2 rfl (lv_at hl 1 rfl) ?_
  refine lv_iconst (v := 0) hx hb dX12_object_3 (by decide) ?_
  refine lv_iconst (v := 0) hx hb dX12_object_4 (by decide) ?_
  refine sm_vi (As := [.int 0, .int p1, .int 0, .int 0]) (rest := []) hP hK hD hE hS hA ⟨hx, hb, hml, hown, hts⟩ hl.1 (c_X12_thing l D H.size t0 σ α 0 p1 0 0 _ hF) (cwV 4 hts wg_X12_object_X12_thing_313 rfl rfl rfl (by decide +kernel) ⟨Nat.le_of_ble_eq_true rfl, Nat.le_of_ble_eq_true rfl⟩) (va_recv hK hP (ci := 12) (q0 := 1) rfl (sm_gX12 σ α)) rfl rfl (Nat.le_of_ble_eq_true rfl) dX12_object_5 ⟨Nat.zero_le _, Nat.zero_le _⟩ (fun r2 σ1 H locs hF hP hS => ?_)
  exact W.iret (v := r2) hx hb hr (fun t ht hW => ⟨⟨r2, σ1, rfl, hF, (by unfold sm_B; rw [ht]; exact hP)⟩, hS.F ht⟩) hS.2.2 dX12_object_8
theorem dX12_method_0 : decode cX12_method 0 = .ok (.aload_n 0, 1) := by decide +kernel
theorem dX12_method_1 : decode cX12_method 1 = .ok (.getfield 205, 3) := by decide +kernel
theorem dX12_method_4 : decode cX12_method 4 = .ok (.aload_n 0, 1) := by decide +kernel
theorem dX12_method_5 : decode cX12_method 5 = .ok (.getfield 256, 3) := by decide +kernel
theorem dX12_method_8 : decode cX12_method 8 = .ok (.iconst 1, 1) := by decide +kernel
theorem dX12_method_9 : decode cX12_method 9 = .ok (.isub, 1) := by decide +kernel
theorem dX12_method_10 : decode cX12_method 10 = .ok (.iaload, 1) := by decide +kernel
theorem dX12_method_11 : decode cX12_method 11 = .ok (.ireturn, 1) := by decide +kernel
def wp_X12_method : List Cond := .code yX12_method cX12_method 1 (some .int) :: ([.fieldLink RX12 205 "SteadyMachineModel" "methodOf" "[I", .fieldLink RX12 256 "SteadyMachineModel" "frames" "I"] ++ wsX120)
theorem wq_X12_method : wp_X12_method.all goodWord = true := wa_c rfl (wa_a (by decide +kernel) uq_X12)
theorem wt_X12_method : GoodIn lw_tbl wp_X12_method := wm_c (List.mem_of_getElem? (i := 1673) (by decide +kernel)) rfl (wm_a (goodIn_r _ [1509, 1508] (by decide +kernel) (by decide +kernel)) ut_X12)
theorem wi_X12_method_X12 : ∀ w ∈ wsX120, w ∈ wp_X12_method := fun w h => List.mem_cons_of_mem _ (List.mem_append_right _ h)
set_option maxHeartbeats 4000000 in
set_option maxRecDepth 100000 in
theorem c_X12_method (l : Launch) (D : va_G) (sz t0 : Nat) (σ : sm_S) (α : sm_A) (K : Int32 → sm_S → Prop) (hF : mp_X12_method σ K) : Met l yX12_method wp_X12_method { frames := 0, cells := 0, slots := 0, locals := 0 } (sm_P sm_wM sm_tM 40 D sz t0 σ α [.ref (α.1 1)]) (va_Qi K (sm_B sm_wM D α) (sm_a α 40 sz)) 0 0 (sm_a α 40 sz) := by
  refine Met.ofW (cc := cX12_method) (maxL := 1) (ret := (some .int)) (by decide) rfl ?_
  intro p e s m args below meth c s₁ B hml hv
  obtain ⟨rfl, hsz, hP, hK, hD0, hE⟩ := hv
  have hx := B.exec
  have hb := B.bytes
  have hr := B.returns
  have hts := atoms_spec (ws := wp_X12_method) B.pre
  have hown : s.vm.findClass RX12 = some m.cls := findClass_of_methodNamed B.named
  have hlocks := B.notSynchronized
  subst hsz
  have hD : sm_D (sm_a α 40 s.heap.size) α 40 := hD0.own
  have hA : ∀ q : Nat, s.heap.size ≤ q → sm_a α 40 s.heap.size q := fun q h => Or.inr h
  generalize hAe : sm_a α 40 s.heap.size = A at hD hA hE ⊢
  have hS : va_S A s.heap s.heap [] := va_S.rf
  have in_X12 : ∀ w ∈ wsX120, w ∈ wp_X12_method := wi_X12_method_X12
  have k_0 := hts (.fieldLink RX12 205 "SteadyMachineModel" "methodOf" "[I") (by decide +kernel)
  have k_1 := hts (.fieldLink RX12 256 "SteadyMachineModel" "frames" "I") (by decide +kernel)
  have hl := lv_entry ([.ref (α.1 1)]) (n := 1) (Nat.le_of_ble_eq_true rfl)
  rw [lg_entry_eq]
  generalize (lg_sl ([.ref (α.1 1)]) ++ List.replicate (1 - (lg_sl ([.ref (α.1 1)])).length) Slot.unset).toArray = ls at hl ⊢
  have hl : lv_has ls 1 [(0, .ref (α.1 1))] := hl
  unfold mp_X12_method at hF
  revert hP hS
  generalize hLo : ([] : List Loc) = locs
  suffices h9 : ∀ (H : Heap) (locs : List Loc), va_P D vwCl (sm_wM σ α) H → va_S A s.heap H locs → W p l e (headSpec wp_X12_method { frames := 0, cells := 0, slots := 0, locals := 0 }).room s m ([.ref (α.1 1)] : List Value).toArray below meth c H locs 0 0 (MQ below (va_Qi K (sm_B sm_wM D α) A) ([.ref (α.1 1)] : List Value).toArray s 0 0 A) (F0 m 0 ls []) from fun hP hS => h9 s.heap locs hP hS
  intro H locs hP hS
  refine lv_aload_n hx hb dX12_method_0 rfl (lv_at hl 0 rfl) ?_
  refine va_get (D := D) (ci := 12) (v := .ref (α.1 33)) (C := RX12) (T := TX12) (N := 42) hx hb hts in_X12 hown hK hP 1 (sm_gX12 σ α) rfl 19 (by decide) k_0 (fun _ h9 => h9) rfl dX12_method_1 ?_
  refine lv_aload_n hx hb dX12_method_4 rfl (lv_at hl 0 rfl) ?_
  refine va_get (D := D) (ci := 12) (v := .int (σ.1 14)) (C := RX12) (T := TX12) (N := 42) hx hb hts in_X12 hown hK hP 1 (sm_gX12 σ α) rfl 18 (by decide) k_1 (fun _ h9 => h9) rfl dX12_method_5 ?_
  refine lv_iconst (v := 1) hx hb dX12_method_8 (by decide) ?_
  refine lv_isub hx hb dX12_method_9 ?_
  obtain ⟨h1, hF⟩ := hF
  refine va_iald (n := (σ.2.2.1 33)) (f := (σ.2.2.2.1 33)) hx hb hK hP 33 31 (sm_aM33 σ α) (sm_yM33 α) h1 dX12_method_10 ?_
  exact W.iret (v := ((σ.2.2.2.1 33) ((σ.1 14) - 1).toNatClampNeg)) hx hb hr (fun t ht hW => ⟨⟨((σ.2.2.2.1 33) ((σ.1 14) - 1).toNatClampNeg), σ, rfl, hF, (by unfold sm_B; rw [ht]; exact hP)⟩, hS.F ht⟩) hS.2.2 dX12_method_11
theorem dX12_under_0 : decode cX12_under 0 = .ok (.bipush 12, 2) := by decide +kernel
theorem dX12_under_2 : decode cX12_under 2 = .ok (.aload_n 0, 1) := by decide +kernel
theorem dX12_under_3 : decode cX12_under 3 = .ok (.getfield 256, 3) := by decide +kernel
theorem dX12_under_6 : decode cX12_under 6 = .ok (.iconst 1, 1) := by decide +kernel
theorem dX12_under_7 : decode cX12_under 7 = .ok (.isub, 1) := by decide +kernel
theorem dX12_under_8 : decode cX12_under 8 = .ok (.imul, 1) := by decide +kernel
theorem dX12_under_9 : decode cX12_under 9 = .ok (.aload_n 0, 1) := by decide +kernel
theorem dX12_under_10 : decode cX12_under 10 = .ok (.getfield 10, 3) := by decide +kernel
theorem dX12_under_13 : decode cX12_under 13 = .ok (.getfield 27, 3) := by decide +kernel
theorem dX12_under_16 : decode cX12_under 16 = .ok (.aload_n 0, 1) := by decide +kernel
theorem dX12_under_17 : decode cX12_under 17 = .ok (.invokevirtual 317, 3) := by decide +kernel
theorem dX12_under_20 : decode cX12_under 20 = .ok (.iaload, 1) := by decide +kernel
theorem dX12_under_21 : decode cX12_under 21 = .ok (.iadd, 1) := by decide +kernel
theorem dX12_under_22 : decode cX12_under 22 = .ok (.aload_n 0, 1) := by decide +kernel
theorem dX12_under_23 : decode cX12_under 23 = .ok (.getfield 211, 3) := by decide +kernel
theorem dX12_under_26 : decode cX12_under 26 = .ok (.aload_n 0, 1) := by decide +kernel
theorem dX12_under_27 : decode cX12_under 27 = .ok (.getfield 256, 3) := by decide +kernel
theorem dX12_under_30 : decode cX12_under 30 = .ok (.iconst 1, 1) := by decide +kernel
theorem dX12_under_31 : decode cX12_under 31 = .ok (.isub, 1) := by decide +kernel
theorem dX12_under_32 : decode cX12_under 32 = .ok (.iaload, 1) := by decide +kernel
theorem dX12_under_33 : decode cX12_under 33 = .ok (.iadd, 1) := by decide +kernel
theorem dX12_under_34 : decode cX12_under 34 = .ok (.iconst 1, 1) := by decide +kernel
theorem dX12_under_35 : decode cX12_under 35 = .ok (.isub, 1) := by decide +kernel
theorem dX12_under_36 : decode cX12_under 36 = .ok (.iload_n 1, 1) := by decide +kernel
theorem dX12_under_37 : decode cX12_under 37 = .ok (.isub, 1) := by decide +kernel
theorem dX12_under_38 : decode cX12_under 38 = .ok (.ireturn, 1) := by decide +kernel
def wp_X12_under : List Cond := .code yX12_under cX12_under 2 (some .int) :: ((([.fieldLink RX12 256 "SteadyMachineModel" "frames" "I", .fieldLink RX12 10 "SteadyMachineModel" "image" "LSteadyMachineModel$Image;", .fieldLink RX12 211 "SteadyMachineModel" "highOf" "[I"] ++ (wsV RX12 317 RX12 yX12_method wp_X12_method)) ++ wsX110) ++ wsX120)
theorem wq_X12_under : wp_X12_under.all goodWord = true := wa_c rfl (wa_a (wa_a (wa_a (by decide +kernel) (wa_V wq_X12_method)) uq_X11) uq_X12)
theorem wt_X12_under : GoodIn lw_tbl wp_X12_under := wm_c (List.mem_of_getElem? (i := 1681) (by decide +kernel)) rfl (wm_a (wm_a (wm_a (goodIn_r _ [1508, 1490, 1511] (by decide +kernel) (by decide +kernel)) (wm_a (goodIn_r _ [1670, 1672, 111, 147] (by decide +kernel) (by decide +kernel)) wt_X12_method)) ut_X11) ut_X12)
theorem wg_X12_under_X12_method_317 : GoodIn wp_X12_under (wsV RX12 317 RX12 yX12_method wp_X12_method) := goodIn_sub (fun w h => List.mem_cons_of_mem _ (List.mem_append_left _ (List.mem_append_left _ (List.mem_append_right _ h)))) (wa_V wq_X12_method)
theorem wi_X12_under_X11 : ∀ w ∈ wsX110, w ∈ wp_X12_under := fun w h => List.mem_cons_of_mem _ (List.mem_append_left _ (List.mem_append_right _ h))
theorem wi_X12_under_X12 : ∀ w ∈ wsX120, w ∈ wp_X12_under := fun w h => List.mem_cons_of_mem _ (List.mem_append_right _ h)
set_option maxHeartbeats 4000000 in
set_option maxRecDepth 100000 in
theorem c_X12_under (l : Launch) (D : va_G) (sz t0 : Nat) (σ : sm_S) (α : sm_A) (p1 : Int32) (K : Int32 → sm_S → Prop) (hF : mp_X12_under σ p1 K) : Met l yX12_under wp_X12_under { frames := 1, cells := 0, slots := 0, locals := 20 } (sm_P sm_wM sm_tM 40 D sz t0 σ α [.ref (α.1 1), .int p1]) (va_Qi K (sm_B sm_wM D α) (sm_a α 40 sz)) 0 0 (sm_a α 40 sz) := by
  refine Met.ofW (cc := cX12_under) (maxL := 2) (ret := (some .int)) (by decide) rfl ?_
  intro p e s m args below meth c s₁ B hml hv
  obtain ⟨rfl, hsz, hP, hK, hD0, hE⟩ := hv
  have hx := B.exec
  have hb := B.bytes
  have hr := B.returns
  have hts := atoms_spec (ws := wp_X12_under) B.pre
  have hown : s.vm.findClass RX12 = some m.cls := findClass_of_methodNamed B.named
  have hlocks := B.notSynchronized
  subst hsz
  have hD : sm_D (sm_a α 40 s.heap.size) α 40 := hD0.own
  have hA : ∀ q : Nat, s.heap.size ≤ q → sm_a α 40 s.heap.size q := fun q h => Or.inr h
  generalize hAe : sm_a α 40 s.heap.size = A at hD hA hE ⊢
  have hS : va_S A s.heap s.heap [] := va_S.rf
  have in_X11 : ∀ w ∈ wsX110, w ∈ wp_X12_under := wi_X12_under_X11
  have in_X12 : ∀ w ∈ wsX120, w ∈ wp_X12_under := wi_X12_under_X12
  have k_0 := hts (.fieldLink RX12 256 "SteadyMachineModel" "frames" "I") (by decide +kernel)
  have k_1 := hts (.fieldLink RX12 10 "SteadyMachineModel" "image" "LSteadyMachineModel$Image;") (by decide +kernel)
  have k_2 := hts (.fieldLink RX12 211 "SteadyMachineModel" "highOf" "[I") (by decide +kernel)
  have hl := lv_entry ([.ref (α.1 1), .int p1]) (n := 2) (Nat.le_of_ble_eq_true rfl)
  rw [lg_entry_eq]
  generalize (lg_sl ([.ref (α.1 1), .int p1]) ++ List.replicate (2 - (lg_sl ([.ref (α.1 1), .int p1])).length) Slot.unset).toArray = ls at hl ⊢
  have hl : lv_has ls 2 [(0, .ref (α.1 1)), (1, .int p1)] := hl
  unfold mp_X12_under at hF
  revert hP hS
  generalize hLo : ([] : List Loc) = locs
  suffices h9 : ∀ (H : Heap) (locs : List Loc), va_P D vwCl (sm_wM σ α) H → va_S A s.heap H locs → W p l e (headSpec wp_X12_under { frames := 1, cells := 0, slots := 0, locals := 20 }).room s m ([.ref (α.1 1), .int p1] : List Value).toArray below meth c H locs 0 0 (MQ below (va_Qi K (sm_B sm_wM D α) A) ([.ref (α.1 1), .int p1] : List Value).toArray s 0 0 A) (F0 m 0 ls []) from fun hP hS => h9 s.heap locs hP hS
  intro H locs hP hS
  refine lv_bipush (v := 12) hx hb dX12_under_0 (by decide) ?_
  refine lv_aload_n hx hb dX12_under_2 rfl (lv_at hl 0 rfl) ?_
  refine va_get (D := D) (ci := 12) (v := .int (σ.1 14)) (C := RX12) (T := TX12) (N := 42) hx hb hts in_X12 hown hK hP 1 (sm_gX12 σ α) rfl 18 (by decide) k_0 (fun _ h9 => h9) rfl dX12_under_3 ?_
  refine lv_iconst (v := 1) hx hb dX12_under_6 (by decide) ?_
  refine lv_isub hx hb dX12_under_7 ?_
  refine lv_imul hx hb dX12_under_8 ?_
  refine lv_aload_n hx hb dX12_under_9 rfl (lv_at hl 0 rfl) ?_
  refine va_get (D := D) (ci := 12) (v := .ref (α.1 0)) (C := RX12) (T := TX12) (N := 42) hx hb hts in_X12 hown hK hP 1 (sm_gX12 σ α) rfl 0 (by decide) k_1 (fun _ h9 => h9) rfl dX12_under_10 ?_
  refine va_getN (D := D) (ci := 11) (v := .ref (α.1 15)) (C := RX11) (T := TX11) (N := 28) hx hb hts in_X11 hown hK hP 0 (sm_gX11 σ α) rfl 20 (by decide) (va_Nw.use rfl (hE.1 (.fieldLinkNest "SteadyMachineModel" 27 "SteadyMachineModel$Image" "locals" "[I" "SteadyMachineModel") (by decide +kernel))) (fun _ h9 => h9) rfl dX12_under_13 ?_
  refine lv_aload_n hx hb dX12_under_16 rfl (lv_at hl 0 rfl) ?_
  refine sm_vi (As := []) (rest := [.ref (α.1 15), .int (12 * ((σ.1 14) - 1))]) hP hK hD hE hS hA ⟨hx, hb, hml, hown, hts⟩ hl.1 (c_X12_method l D H.size t0 σ α _ hF) (cwV 0 hts wg_X12_under_X12_method_317 rfl rfl rfl (by decide +kernel) ⟨Nat.le_of_ble_eq_true rfl, Nat.le_of_ble_eq_true rfl⟩) (va_recv hK hP (ci := 12) (q0 := 1) rfl (sm_gX12 σ α)) rfl rfl (Nat.le_of_ble_eq_true rfl) dX12_under_17 ⟨Nat.zero_le _, Nat.zero_le _⟩ (fun r2 σ1 H locs hF hP hS => ?_)
  obtain ⟨h3, hF⟩ := hF
  refine va_iald (n := (σ1.2.2.1 15)) (f := (σ1.2.2.2.1 15)) hx hb hK hP 15 13 (sm_aM15 σ1 α) (sm_yM15 α) h3 dX12_under_20 ?_
  refine lv_iadd hx hb dX12_under_21 ?_
  refine lv_aload_n hx hb dX12_under_22 rfl (lv_at hl 0 rfl) ?_
  refine va_get (D := D) (ci := 12) (v := .ref (α.1 35)) (C := RX12) (T := TX12) (N := 42) hx hb hts in_X12 hown hK hP 1 (sm_gX12 σ1 α) rfl 21 (by decide) k_2 (fun _ h9 => h9) rfl dX12_under_23 ?_
  refine lv_aload_n hx hb dX12_under_26 rfl (lv_at hl 0 rfl) ?_
  refine va_get (D := D) (ci := 12) (v := .int (σ1.1 14)) (C := RX12) (T := TX12) (N := 42) hx hb hts in_X12 hown hK hP 1 (sm_gX12 σ1 α) rfl 18 (by decide) k_0 (fun _ h9 => h9) rfl dX12_under_27 ?_
  refine lv_iconst (v := 1) hx hb dX12_under_30 (by decide) ?_
  refine lv_isub hx hb dX12_under_31 ?_
  obtain ⟨h4, hF⟩ := hF
  refine va_iald (n := (σ1.2.2.1 35)) (f := (σ1.2.2.2.1 35)) hx hb hK hP 35 33 (sm_aM35 σ1 α) (sm_yM35 α) h4 dX12_under_32 ?_
  refine lv_iadd hx hb dX12_under_33 ?_
  refine lv_iconst (v := 1) hx hb dX12_under_34 (by decide) ?_
  refine lv_isub hx hb dX12_under_35 ?_
  refine lv_iload_n hx hb dX12_under_36 rfl (lv_at hl 1 rfl) ?_
  refine lv_isub hx hb dX12_under_37 ?_
  exact W.iret (v := (((((12 * ((σ.1 14) - 1)) + ((σ1.2.2.2.1 15) r2.toNatClampNeg)) + ((σ1.2.2.2.1 35) ((σ1.1 14) - 1).toNatClampNeg)) - 1) - p1)) hx hb hr (fun t ht hW => ⟨⟨(((((12 * ((σ.1 14) - 1)) + ((σ1.2.2.2.1 15) r2.toNatClampNeg)) + ((σ1.2.2.2.1 35) ((σ1.1 14) - 1).toNatClampNeg)) - 1) - p1), σ1, rfl, hF, (by unfold sm_B; rw [ht]; exact hP)⟩, hS.F ht⟩) hS.2.2 dX12_under_38
theorem dX12_value_0 : decode cX12_value 0 = .ok (.aload_n 0, 1) := by decide +kernel
theorem dX12_value_1 : decode cX12_value 1 = .ok (.getfield 215, 3) := by decide +kernel
theorem dX12_value_4 : decode cX12_value 4 = .ok (.aload_n 0, 1) := by decide +kernel
theorem dX12_value_5 : decode cX12_value 5 = .ok (.iload_n 1, 1) := by decide +kernel
theorem dX12_value_6 : decode cX12_value 6 = .ok (.invokevirtual 320, 3) := by decide +kernel
theorem dX12_value_9 : decode cX12_value 9 = .ok (.iaload, 1) := by decide +kernel
theorem dX12_value_10 : decode cX12_value 10 = .ok (.ireturn, 1) := by decide +kernel
def wp_X12_value : List Cond := .code yX12_value cX12_value 2 (some .int) :: (([.fieldLink RX12 215 "SteadyMachineModel" "valueAt" "[I"] ++ (wsV RX12 320 RX12 yX12_under wp_X12_under)) ++ wsX120)
theorem wq_X12_value : wp_X12_value.all goodWord = true := wa_c rfl (wa_a (wa_a (by decide +kernel) (wa_V wq_X12_under)) uq_X12)
theorem wt_X12_value : GoodIn lw_tbl wp_X12_value := wm_c (List.mem_of_getElem? (i := 1693) (by decide +kernel)) rfl (wm_a (wm_a (goodIn_r _ [1512] (by decide +kernel) (by decide +kernel)) (wm_a (goodIn_r _ [1678, 1680, 113, 147] (by decide +kernel) (by decide +kernel)) wt_X12_under)) ut_X12)
theorem wg_X12_value_X12_under_320 : GoodIn wp_X12_value (wsV RX12 320 RX12 yX12_under wp_X12_under) := goodIn_sub (fun w h => List.mem_cons_of_mem _ (List.mem_append_left _ (List.mem_append_right _ h))) (wa_V wq_X12_under)
theorem wi_X12_value_X12 : ∀ w ∈ wsX120, w ∈ wp_X12_value := fun w h => List.mem_cons_of_mem _ (List.mem_append_right _ h)
set_option maxHeartbeats 4000000 in
set_option maxRecDepth 100000 in
theorem c_X12_value (l : Launch) (D : va_G) (sz t0 : Nat) (σ : sm_S) (α : sm_A) (p1 : Int32) (K : Int32 → sm_S → Prop) (hF : mp_X12_value σ p1 K) : Met l yX12_value wp_X12_value { frames := 2, cells := 0, slots := 0, locals := 41 } (sm_P sm_wM sm_tM 40 D sz t0 σ α [.ref (α.1 1), .int p1]) (va_Qi K (sm_B sm_wM D α) (sm_a α 40 sz)) 0 0 (sm_a α 40 sz) := by
  refine Met.ofW (cc := cX12_value) (maxL := 2) (ret := (some .int)) (by decide) rfl ?_
  intro p e s m args below meth c s₁ B hml hv
  obtain ⟨rfl, hsz, hP, hK, hD0, hE⟩ := hv
  have hx := B.exec
  have hb := B.bytes
  have hr := B.returns
  have hts := atoms_spec (ws := wp_X12_value) B.pre
  have hown : s.vm.findClass RX12 = some m.cls := findClass_of_methodNamed B.named
  have hlocks := B.notSynchronized
  subst hsz
  have hD : sm_D (sm_a α 40 s.heap.size) α 40 := hD0.own
  have hA : ∀ q : Nat, s.heap.size ≤ q → sm_a α 40 s.heap.size q := fun q h => Or.inr h
  generalize hAe : sm_a α 40 s.heap.size = A at hD hA hE ⊢
  have hS : va_S A s.heap s.heap [] := va_S.rf
  have in_X12 : ∀ w ∈ wsX120, w ∈ wp_X12_value := wi_X12_value_X12
  have k_0 := hts (.fieldLink RX12 215 "SteadyMachineModel" "valueAt" "[I") (by decide +kernel)
  have hl := lv_entry ([.ref (α.1 1), .int p1]) (n := 2) (Nat.le_of_ble_eq_true rfl)
  rw [lg_entry_eq]
  generalize (lg_sl ([.ref (α.1 1), .int p1]) ++ List.replicate (2 - (lg_sl ([.ref (α.1 1), .int p1])).length) Slot.unset).toArray = ls at hl ⊢
  have hl : lv_has ls 2 [(0, .ref (α.1 1)), (1, .int p1)] := hl
  unfold mp_X12_value at hF
  revert hP hS
  generalize hLo : ([] : List Loc) = locs
  suffices h9 : ∀ (H : Heap) (locs : List Loc), va_P D vwCl (sm_wM σ α) H → va_S A s.heap H locs → W p l e (headSpec wp_X12_value { frames := 2, cells := 0, slots := 0, locals := 41 }).room s m ([.ref (α.1 1), .int p1] : List Value).toArray below meth c H locs 0 0 (MQ below (va_Qi K (sm_B sm_wM D α) A) ([.ref (α.1 1), .int p1] : List Value).toArray s 0 0 A) (F0 m 0 ls []) from fun hP hS => h9 s.heap locs hP hS
  intro H locs hP hS
  refine lv_aload_n hx hb dX12_value_0 rfl (lv_at hl 0 rfl) ?_
  refine va_get (D := D) (ci := 12) (v := .ref (α.1 36)) (C := RX12) (T := TX12) (N := 42) hx hb hts in_X12 hown hK hP 1 (sm_gX12 σ α) rfl 22 (by decide) k_0 (fun _ h9 => h9) rfl dX12_value_1 ?_
  refine lv_aload_n hx hb dX12_value_4 rfl (lv_at hl 0 rfl) ?_
  refine lv_iload_n hx hb dX12_value_5 rfl (lv_at hl 1 rfl) ?_
  refine sm_vi (As := [.int p1]) (rest := [.ref (α.1 36)]) hP hK hD hE hS hA ⟨hx, hb, hml, hown, hts⟩ hl.1 (c_X12_under l D H.size t0 σ α p1 _ hF) (cwV 1 hts wg_X12_value_X12_under_320 rfl rfl rfl (by decide +kernel) ⟨Nat.le_of_ble_eq_true rfl, Nat.le_of_ble_eq_true rfl⟩) (va_recv hK hP (ci := 12) (q0 := 1) rfl (sm_gX12 σ α)) rfl rfl (Nat.le_of_ble_eq_true rfl) dX12_value_6 ⟨Nat.zero_le _, Nat.zero_le _⟩ (fun r2 σ1 H locs hF hP hS => ?_)
  obtain ⟨h3, hF⟩ := hF
  refine va_iald (n := (σ1.2.2.1 36)) (f := (σ1.2.2.2.1 36)) hx hb hK hP 36 34 (sm_aM36 σ1 α) (sm_yM36 α) h3 dX12_value_9 ?_
  exact W.iret (v := ((σ1.2.2.2.1 36) r2.toNatClampNeg)) hx hb hr (fun t ht hW => ⟨⟨((σ1.2.2.2.1 36) r2.toNatClampNeg), σ1, rfl, hF, (by unfold sm_B; rw [ht]; exact hP)⟩, hS.F ht⟩) hS.2.2 dX12_value_10
theorem dX12_drop_0 : decode cX12_drop 0 = .ok (.aload_n 0, 1) := by decide +kernel
theorem dX12_drop_1 : decode cX12_drop 1 = .ok (.getfield 211, 3) := by decide +kernel
theorem dX12_drop_4 : decode cX12_drop 4 = .ok (.aload_n 0, 1) := by decide +kernel
theorem dX12_drop_5 : decode cX12_drop 5 = .ok (.getfield 256, 3) := by decide +kernel
theorem dX12_drop_8 : decode cX12_drop 8 = .ok (.iconst 1, 1) := by decide +kernel
theorem dX12_drop_9 : decode cX12_drop 9 = .ok (.isub, 1) := by decide +kernel
theorem dX12_drop_10 : decode cX12_drop 10 = .ok (.dup2, 1) := by decide +kernel
theorem dX12_drop_11 : decode cX12_drop 11 = .ok (.iaload, 1) := by decide +kernel
theorem dX12_drop_12 : decode cX12_drop 12 = .ok (.iload_n 1, 1) := by decide +kernel
theorem dX12_drop_13 : decode cX12_drop 13 = .ok (.isub, 1) := by decide +kernel
theorem dX12_drop_14 : decode cX12_drop 14 = .ok (.iastore, 1) := by decide +kernel
theorem dX12_drop_15 : decode cX12_drop 15 = .ok (.return_, 1) := by decide +kernel
def wp_X12_drop : List Cond := .code yX12_drop cX12_drop 2 none :: ([.fieldLink RX12 211 "SteadyMachineModel" "highOf" "[I", .fieldLink RX12 256 "SteadyMachineModel" "frames" "I"] ++ wsX120)
theorem wq_X12_drop : wp_X12_drop.all goodWord = true := wa_c rfl (wa_a (by decide +kernel) uq_X12)
theorem wt_X12_drop : GoodIn lw_tbl wp_X12_drop := wm_c (List.mem_of_getElem? (i := 1700) (by decide +kernel)) rfl (wm_a (goodIn_r _ [1511, 1508] (by decide +kernel) (by decide +kernel)) ut_X12)
theorem wi_X12_drop_X12 : ∀ w ∈ wsX120, w ∈ wp_X12_drop := fun w h => List.mem_cons_of_mem _ (List.mem_append_right _ h)
set_option maxHeartbeats 4000000 in
set_option maxRecDepth 100000 in
theorem c_X12_drop (l : Launch) (D : va_G) (sz t0 : Nat) (σ : sm_S) (α : sm_A) (p1 : Int32) (K : sm_S → Prop) (hF : mp_X12_drop σ p1 K) : Met l yX12_drop wp_X12_drop { frames := 0, cells := 0, slots := 0, locals := 0 } (sm_P sm_wM sm_tM 40 D sz t0 σ α [.ref (α.1 1), .int p1]) (va_Qv K (sm_B sm_wM D α) (sm_a α 40 sz)) 0 0 (sm_a α 40 sz) := by
  refine Met.ofW (cc := cX12_drop) (maxL := 2) (ret := none) (by decide) rfl ?_
  intro p e s m args below meth c s₁ B hml hv
  obtain ⟨rfl, hsz, hP, hK, hD0, hE⟩ := hv
  have hx := B.exec
  have hb := B.bytes
  have hr := B.returns
  have hts := atoms_spec (ws := wp_X12_drop) B.pre
  have hown : s.vm.findClass RX12 = some m.cls := findClass_of_methodNamed B.named
  have hlocks := B.notSynchronized
  subst hsz
  have hD : sm_D (sm_a α 40 s.heap.size) α 40 := hD0.own
  have hA : ∀ q : Nat, s.heap.size ≤ q → sm_a α 40 s.heap.size q := fun q h => Or.inr h
  generalize hAe : sm_a α 40 s.heap.size = A at hD hA hE ⊢
  have hS : va_S A s.heap s.heap [] := va_S.rf
  have in_X12 : ∀ w ∈ wsX120, w ∈ wp_X12_drop := wi_X12_drop_X12
  have k_0 := hts (.fieldLink RX12 211 "SteadyMachineModel" "highOf" "[I") (by decide +kernel)
  have k_1 := hts (.fieldLink RX12 256 "SteadyMachineModel" "frames" "I") (by decide +kernel)
  have hl := lv_entry ([.ref (α.1 1), .int p1]) (n := 2) (Nat.le_of_ble_eq_true rfl)
  rw [lg_entry_eq]
  generalize (lg_sl ([.ref (α.1 1), .int p1]) ++ List.replicate (2 - (lg_sl ([.ref (α.1 1), .int p1])).length) Slot.unset).toArray = ls at hl ⊢
  have hl : lv_has ls 2 [(0, .ref (α.1 1)), (1, .int p1)] := hl
  unfold mp_X12_drop at hF
  revert hP hS
  generalize hLo : ([] : List Loc) = locs
  suffices h9 : ∀ (H : Heap) (locs : List Loc), va_P D vwCl (sm_wM σ α) H → va_S A s.heap H locs → W p l e (headSpec wp_X12_drop { frames := 0, cells := 0, slots := 0, locals := 0 }).room s m ([.ref (α.1 1), .int p1] : List Value).toArray below meth c H locs 0 0 (MQ below (va_Qv K (sm_B sm_wM D α) A) ([.ref (α.1 1), .int p1] : List Value).toArray s 0 0 A) (F0 m 0 ls []) from fun hP hS => h9 s.heap locs hP hS
  intro H locs hP hS
  refine lv_aload_n hx hb dX12_drop_0 rfl (lv_at hl 0 rfl) ?_
  refine va_get (D := D) (ci := 12) (v := .ref (α.1 35)) (C := RX12) (T := TX12) (N := 42) hx hb hts in_X12 hown hK hP 1 (sm_gX12 σ α) rfl 21 (by decide) k_0 (fun _ h9 => h9) rfl dX12_drop_1 ?_
  refine lv_aload_n hx hb dX12_drop_4 rfl (lv_at hl 0 rfl) ?_
  refine va_get (D := D) (ci := 12) (v := .int (σ.1 14)) (C := RX12) (T := TX12) (N := 42) hx hb hts in_X12 hown hK hP 1 (sm_gX12 σ α) rfl 18 (by decide) k_1 (fun _ h9 => h9) rfl dX12_drop_5 ?_
  refine lv_iconst (v := 1) hx hb dX12_drop_8 (by decide) ?_
  refine lv_isub hx hb dX12_drop_9 ?_
  refine lv_dup2_11 hx hb dX12_drop_10 rfl rfl ?_
  obtain ⟨h1, hF⟩ := hF
  refine va_iald (n := (σ.2.2.1 35)) (f := (σ.2.2.2.1 35)) hx hb hK hP 35 33 (sm_aM35 σ α) (sm_yM35 α) h1 dX12_drop_11 ?_
  refine lv_iload_n hx hb dX12_drop_12 rfl (lv_at hl 1 rfl) ?_
  refine lv_isub hx hb dX12_drop_13 ?_
  obtain ⟨h2, hF⟩ := hF
  refine va_iast (n := (σ.2.2.1 35)) (f := (σ.2.2.2.1 35)) (x := (((σ.2.2.2.1 35) ((σ.1 14) - 1).toNatClampNeg) - p1)) hx hb hK hP (hD.to (sm_wM_m _ _)) hS 35 33 (sm_aM35 σ α) (sm_yM35 α) h2 dX12_drop_14 (fun H locs hP _ hS => ?_)
  rw [sm_rM35] at hP
  obtain ⟨σ3, eσ3⟩ : ∃ x : sm_S, x = sm_r σ 35 (upd (σ.2.2.2.1 35) ((σ.1 14) - 1).toNatClampNeg (((σ.2.2.2.1 35) ((σ.1 14) - 1).toNatClampNeg) - p1)) := ⟨_, rfl⟩
  replace hF := hF σ3 eσ3
  rw [← eσ3] at hP
  exact W.vret hx hb hr (fun t ht hW => ⟨⟨σ3, rfl, hF, (by unfold sm_B; rw [ht]; exact hP)⟩, hS.F ht⟩) hS.2.2 dX12_drop_15
theorem dX12_putInt_0 : decode cX12_putInt 0 = .ok (.aload_n 0, 1) := by decide +kernel
theorem dX12_putInt_1 : decode cX12_putInt 1 = .ok (.getfield 211, 3) := by decide +kernel
theorem dX12_putInt_4 : decode cX12_putInt 4 = .ok (.aload_n 0, 1) := by decide +kernel
theorem dX12_putInt_5 : decode cX12_putInt 5 = .ok (.getfield 256, 3) := by decide +kernel
theorem dX12_putInt_8 : decode cX12_putInt 8 = .ok (.iconst 1, 1) := by decide +kernel
theorem dX12_putInt_9 : decode cX12_putInt 9 = .ok (.isub, 1) := by decide +kernel
theorem dX12_putInt_10 : decode cX12_putInt 10 = .ok (.dup2, 1) := by decide +kernel
theorem dX12_putInt_11 : decode cX12_putInt 11 = .ok (.iaload, 1) := by decide +kernel
theorem dX12_putInt_12 : decode cX12_putInt 12 = .ok (.iconst 1, 1) := by decide +kernel
theorem dX12_putInt_13 : decode cX12_putInt 13 = .ok (.iadd, 1) := by decide +kernel
theorem dX12_putInt_14 : decode cX12_putInt 14 = .ok (.iastore, 1) := by decide +kernel
theorem dX12_putInt_15 : decode cX12_putInt 15 = .ok (.aload_n 0, 1) := by decide +kernel
theorem dX12_putInt_16 : decode cX12_putInt 16 = .ok (.getfield 215, 3) := by decide +kernel
theorem dX12_putInt_19 : decode cX12_putInt 19 = .ok (.aload_n 0, 1) := by decide +kernel
theorem dX12_putInt_20 : decode cX12_putInt 20 = .ok (.iconst 0, 1) := by decide +kernel
theorem dX12_putInt_21 : decode cX12_putInt 21 = .ok (.invokevirtual 320, 3) := by decide +kernel
theorem dX12_putInt_24 : decode cX12_putInt 24 = .ok (.iload_n 1, 1) := by decide +kernel
theorem dX12_putInt_25 : decode cX12_putInt 25 = .ok (.iastore, 1) := by decide +kernel
theorem dX12_putInt_26 : decode cX12_putInt 26 = .ok (.aload_n 0, 1) := by decide +kernel
theorem dX12_putInt_27 : decode cX12_putInt 27 = .ok (.getfield 218, 3) := by decide +kernel
theorem dX12_putInt_30 : decode cX12_putInt 30 = .ok (.aload_n 0, 1) := by decide +kernel
theorem dX12_putInt_31 : decode cX12_putInt 31 = .ok (.iconst 0, 1) := by decide +kernel
theorem dX12_putInt_32 : decode cX12_putInt 32 = .ok (.invokevirtual 320, 3) := by decide +kernel
theorem dX12_putInt_35 : decode cX12_putInt 35 = .ok (.iconst 0, 1) := by decide +kernel
theorem dX12_putInt_36 : decode cX12_putInt 36 = .ok (.bastore, 1) := by decide +kernel
theorem dX12_putInt_37 : decode cX12_putInt 37 = .ok (.return_, 1) := by decide +kernel
def wp_X12_putInt : List Cond := .code yX12_putInt cX12_putInt 2 none :: (([.fieldLink RX12 211 "SteadyMachineModel" "highOf" "[I", .fieldLink RX12 256 "SteadyMachineModel" "frames" "I", .fieldLink RX12 215 "SteadyMachineModel" "valueAt" "[I", .fieldLink RX12 218 "SteadyMachineModel" "isThing" "[Z"] ++ (wsV RX12 320 RX12 yX12_under wp_X12_under)) ++ wsX120)
theorem wq_X12_putInt : wp_X12_putInt.all goodWord = true := wa_c rfl (wa_a (wa_a (by decide +kernel) (wa_V wq_X12_under)) uq_X12)
theorem wt_X12_putInt : GoodIn lw_tbl wp_X12_putInt := wm_c (List.mem_of_getElem? (i := 1736) (by decide +kernel)) rfl (wm_a (wm_a (goodIn_r _ [1511, 1508, 1512, 1513] (by decide +kernel) (by decide +kernel)) (wm_a (goodIn_r _ [1678, 1680, 113, 147] (by decide +kernel) (by decide +kernel)) wt_X12_under)) ut_X12)
theorem wg_X12_putInt_X12_under_320 : GoodIn wp_X12_putInt (wsV RX12 320 RX12 yX12_under wp_X12_under) := goodIn_sub (fun w h => List.mem_cons_of_mem _ (List.mem_append_left _ (List.mem_append_right _ h))) (wa_V wq_X12_under)
theorem wi_X12_putInt_X12 : ∀ w ∈ wsX120, w ∈ wp_X12_putInt := fun w h => List.mem_cons_of_mem _ (List.mem_append_right _ h)
set_option maxHeartbeats 4000000 in
set_option maxRecDepth 100000 in
theorem c_X12_putInt (l : Launch) (D : va_G) (sz t0 : Nat) (σ : sm_S) (α : sm_A) (p1 : Int32) (K : sm_S → Prop) (hF : mp_X12_putInt σ p1 K) : Met l yX12_putInt wp_X12_putInt { frames := 2, cells := 0, slots := 0, locals := 41 } (sm_P sm_wM sm_tM 40 D sz t0 σ α [.ref (α.1 1), .int p1]) (va_Qv K (sm_B sm_wM D α) (sm_a α 40 sz)) 0 0 (sm_a α 40 sz) := by
  refine Met.ofW (cc := cX12_putInt) (maxL := 2) (ret := none) (by decide) rfl ?_
  intro p e s m args below meth c s₁ B hml hv
  obtain ⟨rfl, hsz, hP, hK, hD0, hE⟩ := hv
  have hx := B.exec
  have hb := B.bytes
  have hr := B.returns
  have hts := atoms_spec (ws := wp_X12_putInt) B.pre
  have hown : s.vm.findClass RX12 = some m.cls := findClass_of_methodNamed B.named
  have hlocks := B.notSynchronized
  subst hsz
  have hD : sm_D (sm_a α 40 s.heap.size) α 40 := hD0.own
  have hA : ∀ q : Nat, s.heap.size ≤ q → sm_a α 40 s.heap.size q := fun q h => Or.inr h
  generalize hAe : sm_a α 40 s.heap.size = A at hD hA hE ⊢
  have hS : va_S A s.heap s.heap [] := va_S.rf
  have in_X12 : ∀ w ∈ wsX120, w ∈ wp_X12_putInt := wi_X12_putInt_X12
  have k_0 := hts (.fieldLink RX12 211 "SteadyMachineModel" "highOf" "[I") (by decide +kernel)
  have k_1 := hts (.fieldLink RX12 256 "SteadyMachineModel" "frames" "I") (by decide +kernel)
  have k_2 := hts (.fieldLink RX12 215 "SteadyMachineModel" "valueAt" "[I") (by decide +kernel)
  have k_3 := hts (.fieldLink RX12 218 "SteadyMachineModel" "isThing" "[Z") (by decide +kernel)
  have hl := lv_entry ([.ref (α.1 1), .int p1]) (n := 2) (Nat.le_of_ble_eq_true rfl)
  rw [lg_entry_eq]
  generalize (lg_sl ([.ref (α.1 1), .int p1]) ++ List.replicate (2 - (lg_sl ([.ref (α.1 1), .int p1])).length) Slot.unset).toArray = ls at hl ⊢
  have hl : lv_has ls 2 [(0, .ref (α.1 1)), (1, .int p1)] := hl
  unfold mp_X12_putInt at hF
  revert hP hS
  generalize hLo : ([] : List Loc) = locs
  suffices h9 : ∀ (H : Heap) (locs : List Loc), va_P D vwCl (sm_wM σ α) H → va_S A s.heap H locs → W p l e (headSpec wp_X12_putInt { frames := 2, cells := 0, slots := 0, locals := 41 }).room s m ([.ref (α.1 1), .int p1] : List Value).toArray below meth c H locs 0 0 (MQ below (va_Qv K (sm_B sm_wM D α) A) ([.ref (α.1 1), .int p1] : List Value).toArray s 0 0 A) (F0 m 0 ls []) from fun hP hS => h9 s.heap locs hP hS
  intro H locs hP hS
  refine lv_aload_n hx hb dX12_putInt_0 rfl (lv_at hl 0 rfl) ?_
  refine va_get (D := D) (ci := 12) (v := .ref (α.1 35)) (C := RX12) (T := TX12) (N := 42) hx hb hts in_X12 hown hK hP 1 (sm_gX12 σ α) rfl 21 (by decide) k_0 (fun _ h9 => h9) rfl dX12_putInt_1 ?_
  refine lv_aload_n hx hb dX12_putInt_4 rfl (lv_at hl 0 rfl) ?_
  refine va_get (D := D) (ci := 12) (v := .int (σ.1 14)) (C := RX12) (T := TX12) (N := 42) hx hb hts in_X12 hown hK hP 1 (sm_gX12 σ α) rfl 18 (by decide) k_1 (fun _ h9 => h9) rfl dX12_putInt_5 ?_
  refine lv_iconst (v := 1) hx hb dX12_putInt_8 (by decide) ?_
  refine lv_isub hx hb dX12_putInt_9 ?_
  refine lv_dup2_11 hx hb dX12_putInt_10 rfl rfl ?_
  obtain ⟨h1, hF⟩ := hF
  refine va_iald (n := (σ.2.2.1 35)) (f := (σ.2.2.2.1 35)) hx hb hK hP 35 33 (sm_aM35 σ α) (sm_yM35 α) h1 dX12_putInt_11 ?_
  refine lv_iconst (v := 1) hx hb dX12_putInt_12 (by decide) ?_
  refine lv_iadd hx hb dX12_putInt_13 ?_
  obtain ⟨h2, hF⟩ := hF
  refine va_iast (n := (σ.2.2.1 35)) (f := (σ.2.2.2.1 35)) (x := (((σ.2.2.2.1 35) ((σ.1 14) - 1).toNatClampNeg) + 1)) hx hb hK hP (hD.to (sm_wM_m _ _)) hS 35 33 (sm_aM35 σ α) (sm_yM35 α) h2 dX12_putInt_14 (fun H locs hP _ hS => ?_)
  rw [sm_rM35] at hP
  obtain ⟨σ3, eσ3⟩ : ∃ x : sm_S, x = sm_r σ 35 (upd (σ.2.2.2.1 35) ((σ.1 14) - 1).toNatClampNeg (((σ.2.2.2.1 35) ((σ.1 14) - 1).toNatClampNeg) + 1)) := ⟨_, rfl⟩
  replace hF := hF σ3 eσ3
  rw [← eσ3] at hP
  refine lv_aload_n hx hb dX12_putInt_15 rfl (lv_at hl 0 rfl) ?_
  refine va_get (D := D) (ci := 12) (v := .ref (α.1 36)) (C := RX12) (T := TX12) (N := 42) hx hb hts in_X12 hown hK hP 1 (sm_gX12 σ3 α) rfl 22 (by decide) k_2 (fun _ h9 => h9) rfl dX12_putInt_16 ?_
  refine lv_aload_n hx hb dX12_putInt_19 rfl (lv_at hl 0 rfl) ?_
  refine lv_iconst (v := 0) hx hb dX12_putInt_20 (by decide) ?_
  refine sm_vi (As := [.int 0]) (rest := [.ref (α.1 36)]) hP hK hD hE hS hA ⟨hx, hb, hml, hown, hts⟩ hl.1 (c_X12_under l D H.size t0 σ3 α 0 _ hF) (cwV 1 hts wg_X12_putInt_X12_under_320 rfl rfl rfl (by decide +kernel) ⟨Nat.le_of_ble_eq_true rfl, Nat.le_of_ble_eq_true rfl⟩) (va_recv hK hP (ci := 12) (q0 := 1) rfl (sm_gX12 σ3 α)) rfl rfl (Nat.le_of_ble_eq_true rfl) dX12_putInt_21 ⟨Nat.zero_le _, Nat.zero_le _⟩ (fun r5 σ4 H locs hF hP hS => ?_)
  refine lv_iload_n hx hb dX12_putInt_24 rfl (lv_at hl 1 rfl) ?_
  obtain ⟨h6, hF⟩ := hF
  refine va_iast (n := (σ4.2.2.1 36)) (f := (σ4.2.2.2.1 36)) (x := p1) hx hb hK hP (hD.to (sm_wM_m _ _)) hS 36 34 (sm_aM36 σ4 α) (sm_yM36 α) h6 dX12_putInt_25 (fun H locs hP _ hS => ?_)
  rw [sm_rM36] at hP
  obtain ⟨σ7, eσ7⟩ : ∃ x : sm_S, x = sm_r σ4 36 (upd (σ4.2.2.2.1 36) r5.toNatClampNeg p1) := ⟨_, rfl⟩
  replace hF := hF σ7 eσ7
  rw [← eσ7] at hP
  refine lv_aload_n hx hb dX12_putInt_26 rfl (lv_at hl 0 rfl) ?_
  refine va_get (D := D) (ci := 12) (v := .ref (α.1 37)) (C := RX12) (T := TX12) (N := 42) hx hb hts in_X12 hown hK hP 1 (sm_gX12 σ7 α) rfl 23 (by decide) k_3 (fun _ h9 => h9) rfl dX12_putInt_27 ?_
  refine lv_aload_n hx hb dX12_putInt_30 rfl (lv_at hl 0 rfl) ?_
  refine lv_iconst (v := 0) hx hb dX12_putInt_31 (by decide) ?_
  refine sm_vi (As := [.int 0]) (rest := [.ref (α.1 37)]) hP hK hD hE hS hA ⟨hx, hb, hml, hown, hts⟩ hl.1 (c_X12_under l D H.size t0 σ7 α 0 _ hF) (cwV 1 hts wg_X12_putInt_X12_under_320 rfl rfl rfl (by decide +kernel) ⟨Nat.le_of_ble_eq_true rfl, Nat.le_of_ble_eq_true rfl⟩) (va_recv hK hP (ci := 12) (q0 := 1) rfl (sm_gX12 σ7 α)) rfl rfl (Nat.le_of_ble_eq_true rfl) dX12_putInt_32 ⟨Nat.zero_le _, Nat.zero_le _⟩ (fun r9 σ8 H locs hF hP hS => ?_)
  refine lv_iconst (v := 0) hx hb dX12_putInt_35 (by decide) ?_
  obtain ⟨h10, hF⟩ := hF
  refine va_zast (n := (σ8.2.2.1 37)) (f := (σ8.2.2.2.1 37)) (x := 0) hx hb hK hP (hD.to (sm_wM_m _ _)) hS 37 35 (sm_aM37 σ8 α) (sm_yM37 α) h10 dX12_putInt_36 (fun H locs hP _ hS => ?_)
  rw [sm_rM37] at hP
  obtain ⟨σ11, eσ11⟩ : ∃ x : sm_S, x = sm_r σ8 37 (upd (σ8.2.2.2.1 37) r9.toNatClampNeg (vp_nar .boolean 0)) := ⟨_, rfl⟩
  replace hF := hF σ11 eσ11
  rw [← eσ11] at hP
  exact W.vret hx hb hr (fun t ht hW => ⟨⟨σ11, rfl, hF, (by unfold sm_B; rw [ht]; exact hP)⟩, hS.F ht⟩) hS.2.2 dX12_putInt_37
theorem dX12_putThing_0 : decode cX12_putThing 0 = .ok (.aload_n 0, 1) := by decide +kernel
theorem dX12_putThing_1 : decode cX12_putThing 1 = .ok (.getfield 211, 3) := by decide +kernel
theorem dX12_putThing_4 : decode cX12_putThing 4 = .ok (.aload_n 0, 1) := by decide +kernel
theorem dX12_putThing_5 : decode cX12_putThing 5 = .ok (.getfield 256, 3) := by decide +kernel
theorem dX12_putThing_8 : decode cX12_putThing 8 = .ok (.iconst 1, 1) := by decide +kernel
theorem dX12_putThing_9 : decode cX12_putThing 9 = .ok (.isub, 1) := by decide +kernel
theorem dX12_putThing_10 : decode cX12_putThing 10 = .ok (.dup2, 1) := by decide +kernel
theorem dX12_putThing_11 : decode cX12_putThing 11 = .ok (.iaload, 1) := by decide +kernel
theorem dX12_putThing_12 : decode cX12_putThing 12 = .ok (.iconst 1, 1) := by decide +kernel
theorem dX12_putThing_13 : decode cX12_putThing 13 = .ok (.iadd, 1) := by decide +kernel
theorem dX12_putThing_14 : decode cX12_putThing 14 = .ok (.iastore, 1) := by decide +kernel
theorem dX12_putThing_15 : decode cX12_putThing 15 = .ok (.aload_n 0, 1) := by decide +kernel
theorem dX12_putThing_16 : decode cX12_putThing 16 = .ok (.getfield 215, 3) := by decide +kernel
theorem dX12_putThing_19 : decode cX12_putThing 19 = .ok (.aload_n 0, 1) := by decide +kernel
theorem dX12_putThing_20 : decode cX12_putThing 20 = .ok (.iconst 0, 1) := by decide +kernel
theorem dX12_putThing_21 : decode cX12_putThing 21 = .ok (.invokevirtual 320, 3) := by decide +kernel
theorem dX12_putThing_24 : decode cX12_putThing 24 = .ok (.iload_n 1, 1) := by decide +kernel
theorem dX12_putThing_25 : decode cX12_putThing 25 = .ok (.iastore, 1) := by decide +kernel
theorem dX12_putThing_26 : decode cX12_putThing 26 = .ok (.aload_n 0, 1) := by decide +kernel
theorem dX12_putThing_27 : decode cX12_putThing 27 = .ok (.getfield 218, 3) := by decide +kernel
theorem dX12_putThing_30 : decode cX12_putThing 30 = .ok (.aload_n 0, 1) := by decide +kernel
theorem dX12_putThing_31 : decode cX12_putThing 31 = .ok (.iconst 0, 1) := by decide +kernel
theorem dX12_putThing_32 : decode cX12_putThing 32 = .ok (.invokevirtual 320, 3) := by decide +kernel
theorem dX12_putThing_35 : decode cX12_putThing 35 = .ok (.iconst 1, 1) := by decide +kernel
theorem dX12_putThing_36 : decode cX12_putThing 36 = .ok (.bastore, 1) := by decide +kernel
theorem dX12_putThing_37 : decode cX12_putThing 37 = .ok (.return_, 1) := by decide +kernel
def wp_X12_putThing : List Cond := .code yX12_putThing cX12_putThing 2 none :: (([.fieldLink RX12 211 "SteadyMachineModel" "highOf" "[I", .fieldLink RX12 256 "SteadyMachineModel" "frames" "I", .fieldLink RX12 215 "SteadyMachineModel" "valueAt" "[I", .fieldLink RX12 218 "SteadyMachineModel" "isThing" "[Z"] ++ (wsV RX12 320 RX12 yX12_under wp_X12_under)) ++ wsX120)
theorem wq_X12_putThing : wp_X12_putThing.all goodWord = true := wa_c rfl (wa_a (wa_a (by decide +kernel) (wa_V wq_X12_under)) uq_X12)
theorem wt_X12_putThing : GoodIn lw_tbl wp_X12_putThing := wm_c (List.mem_of_getElem? (i := 1677) (by decide +kernel)) rfl (wm_a (wm_a (goodIn_r _ [1511, 1508, 1512, 1513] (by decide +kernel) (by decide +kernel)) (wm_a (goodIn_r _ [1678, 1680, 113, 147] (by decide +kernel) (by decide +kernel)) wt_X12_under)) ut_X12)
theorem wg_X12_putThing_X12_under_320 : GoodIn wp_X12_putThing (wsV RX12 320 RX12 yX12_under wp_X12_under) := goodIn_sub (fun w h => List.mem_cons_of_mem _ (List.mem_append_left _ (List.mem_append_right _ h))) (wa_V wq_X12_under)
theorem wi_X12_putThing_X12 : ∀ w ∈ wsX120, w ∈ wp_X12_putThing := fun w h => List.mem_cons_of_mem _ (List.mem_append_right _ h)
set_option maxHeartbeats 4000000 in
set_option maxRecDepth 100000 in
theorem c_X12_putThing (l : Launch) (D : va_G) (sz t0 : Nat) (σ : sm_S) (α : sm_A) (p1 : Int32) (K : sm_S → Prop) (hF : mp_X12_putThing σ p1 K) : Met l yX12_putThing wp_X12_putThing { frames := 2, cells := 0, slots := 0, locals := 41 } (sm_P sm_wM sm_tM 40 D sz t0 σ α [.ref (α.1 1), .int p1]) (va_Qv K (sm_B sm_wM D α) (sm_a α 40 sz)) 0 0 (sm_a α 40 sz) := by
  refine Met.ofW (cc := cX12_putThing) (maxL := 2) (ret := none) (by decide) rfl ?_
  intro p e s m args below meth c s₁ B hml hv
  obtain ⟨rfl, hsz, hP, hK, hD0, hE⟩ := hv
  have hx := B.exec
  have hb := B.bytes
  have hr := B.returns
  have hts := atoms_spec (ws := wp_X12_putThing) B.pre
  have hown : s.vm.findClass RX12 = some m.cls := findClass_of_methodNamed B.named
  have hlocks := B.notSynchronized
  subst hsz
  have hD : sm_D (sm_a α 40 s.heap.size) α 40 := hD0.own
  have hA : ∀ q : Nat, s.heap.size ≤ q → sm_a α 40 s.heap.size q := fun q h => Or.inr h
  generalize hAe : sm_a α 40 s.heap.size = A at hD hA hE ⊢
  have hS : va_S A s.heap s.heap [] := va_S.rf
  have in_X12 : ∀ w ∈ wsX120, w ∈ wp_X12_putThing := wi_X12_putThing_X12
  have k_0 := hts (.fieldLink RX12 211 "SteadyMachineModel" "highOf" "[I") (by decide +kernel)
  have k_1 := hts (.fieldLink RX12 256 "SteadyMachineModel" "frames" "I") (by decide +kernel)
  have k_2 := hts (.fieldLink RX12 215 "SteadyMachineModel" "valueAt" "[I") (by decide +kernel)
  have k_3 := hts (.fieldLink RX12 218 "SteadyMachineModel" "isThing" "[Z") (by decide +kernel)
  have hl := lv_entry ([.ref (α.1 1), .int p1]) (n := 2) (Nat.le_of_ble_eq_true rfl)
  rw [lg_entry_eq]
  generalize (lg_sl ([.ref (α.1 1), .int p1]) ++ List.replicate (2 - (lg_sl ([.ref (α.1 1), .int p1])).length) Slot.unset).toArray = ls at hl ⊢
  have hl : lv_has ls 2 [(0, .ref (α.1 1)), (1, .int p1)] := hl
  unfold mp_X12_putThing at hF
  revert hP hS
  generalize hLo : ([] : List Loc) = locs
  suffices h9 : ∀ (H : Heap) (locs : List Loc), va_P D vwCl (sm_wM σ α) H → va_S A s.heap H locs → W p l e (headSpec wp_X12_putThing { frames := 2, cells := 0, slots := 0, locals := 41 }).room s m ([.ref (α.1 1), .int p1] : List Value).toArray below meth c H locs 0 0 (MQ below (va_Qv K (sm_B sm_wM D α) A) ([.ref (α.1 1), .int p1] : List Value).toArray s 0 0 A) (F0 m 0 ls []) from fun hP hS => h9 s.heap locs hP hS
  intro H locs hP hS
  refine lv_aload_n hx hb dX12_putThing_0 rfl (lv_at hl 0 rfl) ?_
  refine va_get (D := D) (ci := 12) (v := .ref (α.1 35)) (C := RX12) (T := TX12) (N := 42) hx hb hts in_X12 hown hK hP 1 (sm_gX12 σ α) rfl 21 (by decide) k_0 (fun _ h9 => h9) rfl dX12_putThing_1 ?_
  refine lv_aload_n hx hb dX12_putThing_4 rfl (lv_at hl 0 rfl) ?_
  refine va_get (D := D) (ci := 12) (v := .int (σ.1 14)) (C := RX12) (T := TX12) (N := 42) hx hb hts in_X12 hown hK hP 1 (sm_gX12 σ α) rfl 18 (by decide) k_1 (fun _ h9 => h9) rfl dX12_putThing_5 ?_
  refine lv_iconst (v := 1) hx hb dX12_putThing_8 (by decide) ?_
  refine lv_isub hx hb dX12_putThing_9 ?_
  refine lv_dup2_11 hx hb dX12_putThing_10 rfl rfl ?_
  obtain ⟨h1, hF⟩ := hF
  refine va_iald (n := (σ.2.2.1 35)) (f := (σ.2.2.2.1 35)) hx hb hK hP 35 33 (sm_aM35 σ α) (sm_yM35 α) h1 dX12_putThing_11 ?_
  refine lv_iconst (v := 1) hx hb dX12_putThing_12 (by decide) ?_
  refine lv_iadd hx hb dX12_putThing_13 ?_
  obtain ⟨h2, hF⟩ := hF
  refine va_iast (n := (σ.2.2.1 35)) (f := (σ.2.2.2.1 35)) (x := (((σ.2.2.2.1 35) ((σ.1 14) - 1).toNatClampNeg) + 1)) hx hb hK hP (hD.to (sm_wM_m _ _)) hS 35 33 (sm_aM35 σ α) (sm_yM35 α) h2 dX12_putThing_14 (fun H locs hP _ hS => ?_)
  rw [sm_rM35] at hP
  obtain ⟨σ3, eσ3⟩ : ∃ x : sm_S, x = sm_r σ 35 (upd (σ.2.2.2.1 35) ((σ.1 14) - 1).toNatClampNeg (((σ.2.2.2.1 35) ((σ.1 14) - 1).toNatClampNeg) + 1)) := ⟨_, rfl⟩
  replace hF := hF σ3 eσ3
  rw [← eσ3] at hP
  refine lv_aload_n hx hb dX12_putThing_15 rfl (lv_at hl 0 rfl) ?_
  refine va_get (D := D) (ci := 12) (v := .ref (α.1 36)) (C := RX12) (T := TX12) (N := 42) hx hb hts in_X12 hown hK hP 1 (sm_gX12 σ3 α) rfl 22 (by decide) k_2 (fun _ h9 => h9) rfl dX12_putThing_16 ?_
  refine lv_aload_n hx hb dX12_putThing_19 rfl (lv_at hl 0 rfl) ?_
  refine lv_iconst (v := 0) hx hb dX12_putThing_20 (by decide) ?_
  refine sm_vi (As := [.int 0]) (rest := [.ref (α.1 36)]) hP hK hD hE hS hA ⟨hx, hb, hml, hown, hts⟩ hl.1 (c_X12_under l D H.size t0 σ3 α 0 _ hF) (cwV 1 hts wg_X12_putThing_X12_under_320 rfl rfl rfl (by decide +kernel) ⟨Nat.le_of_ble_eq_true rfl, Nat.le_of_ble_eq_true rfl⟩) (va_recv hK hP (ci := 12) (q0 := 1) rfl (sm_gX12 σ3 α)) rfl rfl (Nat.le_of_ble_eq_true rfl) dX12_putThing_21 ⟨Nat.zero_le _, Nat.zero_le _⟩ (fun r5 σ4 H locs hF hP hS => ?_)
  refine lv_iload_n hx hb dX12_putThing_24 rfl (lv_at hl 1 rfl) ?_
  obtain ⟨h6, hF⟩ := hF
  refine va_iast (n := (σ4.2.2.1 36)) (f := (σ4.2.2.2.1 36)) (x := p1) hx hb hK hP (hD.to (sm_wM_m _ _)) hS 36 34 (sm_aM36 σ4 α) (sm_yM36 α) h6 dX12_putThing_25 (fun H locs hP _ hS => ?_)
  rw [sm_rM36] at hP
  obtain ⟨σ7, eσ7⟩ : ∃ x : sm_S, x = sm_r σ4 36 (upd (σ4.2.2.2.1 36) r5.toNatClampNeg p1) := ⟨_, rfl⟩
  replace hF := hF σ7 eσ7
  rw [← eσ7] at hP
  refine lv_aload_n hx hb dX12_putThing_26 rfl (lv_at hl 0 rfl) ?_
  refine va_get (D := D) (ci := 12) (v := .ref (α.1 37)) (C := RX12) (T := TX12) (N := 42) hx hb hts in_X12 hown hK hP 1 (sm_gX12 σ7 α) rfl 23 (by decide) k_3 (fun _ h9 => h9) rfl dX12_putThing_27 ?_
  refine lv_aload_n hx hb dX12_putThing_30 rfl (lv_at hl 0 rfl) ?_
  refine lv_iconst (v := 0) hx hb dX12_putThing_31 (by decide) ?_
  refine sm_vi (As := [.int 0]) (rest := [.ref (α.1 37)]) hP hK hD hE hS hA ⟨hx, hb, hml, hown, hts⟩ hl.1 (c_X12_under l D H.size t0 σ7 α 0 _ hF) (cwV 1 hts wg_X12_putThing_X12_under_320 rfl rfl rfl (by decide +kernel) ⟨Nat.le_of_ble_eq_true rfl, Nat.le_of_ble_eq_true rfl⟩) (va_recv hK hP (ci := 12) (q0 := 1) rfl (sm_gX12 σ7 α)) rfl rfl (Nat.le_of_ble_eq_true rfl) dX12_putThing_32 ⟨Nat.zero_le _, Nat.zero_le _⟩ (fun r9 σ8 H locs hF hP hS => ?_)
  refine lv_iconst (v := 1) hx hb dX12_putThing_35 (by decide) ?_
  obtain ⟨h10, hF⟩ := hF
  refine va_zast (n := (σ8.2.2.1 37)) (f := (σ8.2.2.2.1 37)) (x := 1) hx hb hK hP (hD.to (sm_wM_m _ _)) hS 37 35 (sm_aM37 σ8 α) (sm_yM37 α) h10 dX12_putThing_36 (fun H locs hP _ hS => ?_)
  rw [sm_rM37] at hP
  obtain ⟨σ11, eσ11⟩ : ∃ x : sm_S, x = sm_r σ8 37 (upd (σ8.2.2.2.1 37) r9.toNatClampNeg (vp_nar .boolean 1)) := ⟨_, rfl⟩
  replace hF := hF σ11 eσ11
  rw [← eσ11] at hP
  exact W.vret hx hb hr (fun t ht hW => ⟨⟨σ11, rfl, hF, (by unfold sm_B; rw [ht]; exact hP)⟩, hS.F ht⟩) hS.2.2 dX12_putThing_37
theorem dX12_copy_0 : decode cX12_copy 0 = .ok (.aload_n 0, 1) := by decide +kernel
theorem dX12_copy_1 : decode cX12_copy 1 = .ok (.getfield 215, 3) := by decide +kernel
theorem dX12_copy_4 : decode cX12_copy 4 = .ok (.iload_n 2, 1) := by decide +kernel
theorem dX12_copy_5 : decode cX12_copy 5 = .ok (.aload_n 0, 1) := by decide +kernel
theorem dX12_copy_6 : decode cX12_copy 6 = .ok (.getfield 215, 3) := by decide +kernel
theorem dX12_copy_9 : decode cX12_copy 9 = .ok (.iload_n 1, 1) := by decide +kernel
theorem dX12_copy_10 : decode cX12_copy 10 = .ok (.iaload, 1) := by decide +kernel
theorem dX12_copy_11 : decode cX12_copy 11 = .ok (.iastore, 1) := by decide +kernel
theorem dX12_copy_12 : decode cX12_copy 12 = .ok (.aload_n 0, 1) := by decide +kernel
theorem dX12_copy_13 : decode cX12_copy 13 = .ok (.getfield 218, 3) := by decide +kernel
theorem dX12_copy_16 : decode cX12_copy 16 = .ok (.iload_n 2, 1) := by decide +kernel
theorem dX12_copy_17 : decode cX12_copy 17 = .ok (.aload_n 0, 1) := by decide +kernel
theorem dX12_copy_18 : decode cX12_copy 18 = .ok (.getfield 218, 3) := by decide +kernel
theorem dX12_copy_21 : decode cX12_copy 21 = .ok (.iload_n 1, 1) := by decide +kernel
theorem dX12_copy_22 : decode cX12_copy 22 = .ok (.baload, 1) := by decide +kernel
theorem dX12_copy_23 : decode cX12_copy 23 = .ok (.bastore, 1) := by decide +kernel
theorem dX12_copy_24 : decode cX12_copy 24 = .ok (.return_, 1) := by decide +kernel
def wp_X12_copy : List Cond := .code yX12_copy cX12_copy 3 none :: ([.fieldLink RX12 215 "SteadyMachineModel" "valueAt" "[I", .fieldLink RX12 218 "SteadyMachineModel" "isThing" "[Z"] ++ wsX120)
theorem wq_X12_copy : wp_X12_copy.all goodWord = true := wa_c rfl (wa_a (by decide +kernel) uq_X12)
theorem wt_X12_copy : GoodIn lw_tbl wp_X12_copy := wm_c (List.mem_of_getElem? (i := 1748) (by decide +kernel)) rfl (wm_a (goodIn_r _ [1512, 1513] (by decide +kernel) (by decide +kernel)) ut_X12)
theorem wi_X12_copy_X12 : ∀ w ∈ wsX120, w ∈ wp_X12_copy := fun w h => List.mem_cons_of_mem _ (List.mem_append_right _ h)
set_option maxHeartbeats 4000000 in
set_option maxRecDepth 100000 in
theorem c_X12_copy (l : Launch) (D : va_G) (sz t0 : Nat) (σ : sm_S) (α : sm_A) (p1 : Int32) (p2 : Int32) (K : sm_S → Prop) (hF : mp_X12_copy σ p1 p2 K) : Met l yX12_copy wp_X12_copy { frames := 0, cells := 0, slots := 0, locals := 0 } (sm_P sm_wM sm_tM 40 D sz t0 σ α [.ref (α.1 1), .int p1, .int p2]) (va_Qv K (sm_B sm_wM D α) (sm_a α 40 sz)) 0 0 (sm_a α 40 sz) := by
  refine Met.ofW (cc := cX12_copy) (maxL := 3) (ret := none) (by decide) rfl ?_
  intro p e s m args below meth c s₁ B hml hv
  obtain ⟨rfl, hsz, hP, hK, hD0, hE⟩ := hv
  have hx := B.exec
  have hb := B.bytes
  have hr := B.returns
  have hts := atoms_spec (ws := wp_X12_copy) B.pre
  have hown : s.vm.findClass RX12 = some m.cls := findClass_of_methodNamed B.named
  have hlocks := B.notSynchronized
  subst hsz
  have hD : sm_D (sm_a α 40 s.heap.size) α 40 := hD0.own
  have hA : ∀ q : Nat, s.heap.size ≤ q → sm_a α 40 s.heap.size q := fun q h => Or.inr h
  generalize hAe : sm_a α 40 s.heap.size = A at hD hA hE ⊢
  have hS : va_S A s.heap s.heap [] := va_S.rf
  have in_X12 : ∀ w ∈ wsX120, w ∈ wp_X12_copy := wi_X12_copy_X12
  have k_0 := hts (.fieldLink RX12 215 "SteadyMachineModel" "valueAt" "[I") (by decide +kernel)
  have k_1 := hts (.fieldLink RX12 218 "SteadyMachineModel" "isThing" "[Z") (by decide +kernel)
  have hl := lv_entry ([.ref (α.1 1), .int p1, .int p2]) (n := 3) (Nat.le_of_ble_eq_true rfl)
  rw [lg_entry_eq]
  generalize (lg_sl ([.ref (α.1 1), .int p1, .int p2]) ++ List.replicate (3 - (lg_sl ([.ref (α.1 1), .int p1, .int p2])).length) Slot.unset).toArray = ls at hl ⊢
  have hl : lv_has ls 3 [(0, .ref (α.1 1)), (1, .int p1), (2, .int p2)] := hl
  unfold mp_X12_copy at hF
  revert hP hS
  generalize hLo : ([] : List Loc) = locs
  suffices h9 : ∀ (H : Heap) (locs : List Loc), va_P D vwCl (sm_wM σ α) H → va_S A s.heap H locs → W p l e (headSpec wp_X12_copy { frames := 0, cells := 0, slots := 0, locals := 0 }).room s m ([.ref (α.1 1), .int p1, .int p2] : List Value).toArray below meth c H locs 0 0 (MQ below (va_Qv K (sm_B sm_wM D α) A) ([.ref (α.1 1), .int p1, .int p2] : List Value).toArray s 0 0 A) (F0 m 0 ls []) from fun hP hS => h9 s.heap locs hP hS
  intro H locs hP hS
  refine lv_aload_n hx hb dX12_copy_0 rfl (lv_at hl 0 rfl) ?_
  refine va_get (D := D) (ci := 12) (v := .ref (α.1 36)) (C := RX12) (T := TX12) (N := 42) hx hb hts in_X12 hown hK hP 1 (sm_gX12 σ α) rfl 22 (by decide) k_0 (fun _ h9 => h9) rfl dX12_copy_1 ?_
  refine lv_iload_n hx hb dX12_copy_4 rfl (lv_at hl 2 rfl) ?_
  refine lv_aload_n hx hb dX12_copy_5 rfl (lv_at hl 0 rfl) ?_
  refine va_get (D := D) (ci := 12) (v := .ref (α.1 36)) (C := RX12) (T := TX12) (N := 42) hx hb hts in_X12 hown hK hP 1 (sm_gX12 σ α) rfl 22 (by decide) k_0 (fun _ h9 => h9) rfl dX12_copy_6 ?_
  refine lv_iload_n hx hb dX12_copy_9 rfl (lv_at hl 1 rfl) ?_
  obtain ⟨h1, hF⟩ := hF
  refine va_iald (n := (σ.2.2.1 36)) (f := (σ.2.2.2.1 36)) hx hb hK hP 36 34 (sm_aM36 σ α) (sm_yM36 α) h1 dX12_copy_10 ?_
  obtain ⟨h2, hF⟩ := hF
  refine va_iast (n := (σ.2.2.1 36)) (f := (σ.2.2.2.1 36)) (x := ((σ.2.2.2.1 36) p1.toNatClampNeg)) hx hb hK hP (hD.to (sm_wM_m _ _)) hS 36 34 (sm_aM36 σ α) (sm_yM36 α) h2 dX12_copy_11 (fun H locs hP _ hS => ?_)
  rw [sm_rM36] at hP
  obtain ⟨σ3, eσ3⟩ : ∃ x : sm_S, x = sm_r σ 36 (upd (σ.2.2.2.1 36) p2.toNatClampNeg ((σ.2.2.2.1 36) p1.toNatClampNeg)) := ⟨_, rfl⟩
  replace hF := hF σ3 eσ3
  rw [← eσ3] at hP
  refine lv_aload_n hx hb dX12_copy_12 rfl (lv_at hl 0 rfl) ?_
  refine va_get (D := D) (ci := 12) (v := .ref (α.1 37)) (C := RX12) (T := TX12) (N := 42) hx hb hts in_X12 hown hK hP 1 (sm_gX12 σ3 α) rfl 23 (by decide) k_1 (fun _ h9 => h9) rfl dX12_copy_13 ?_
  refine lv_iload_n hx hb dX12_copy_16 rfl (lv_at hl 2 rfl) ?_
  refine lv_aload_n hx hb dX12_copy_17 rfl (lv_at hl 0 rfl) ?_
  refine va_get (D := D) (ci := 12) (v := .ref (α.1 37)) (C := RX12) (T := TX12) (N := 42) hx hb hts in_X12 hown hK hP 1 (sm_gX12 σ3 α) rfl 23 (by decide) k_1 (fun _ h9 => h9) rfl dX12_copy_18 ?_
  refine lv_iload_n hx hb dX12_copy_21 rfl (lv_at hl 1 rfl) ?_
  obtain ⟨h4, hF⟩ := hF
  refine va_zald (n := (σ3.2.2.1 37)) (f := (σ3.2.2.2.1 37)) hx hb hK hP 37 35 (sm_aM37 σ3 α) (sm_yM37 α) h4 dX12_copy_22 ?_
  obtain ⟨h5, hF⟩ := hF
  refine va_zast (n := (σ3.2.2.1 37)) (f := (σ3.2.2.2.1 37)) (x := ((σ3.2.2.2.1 37) p1.toNatClampNeg)) hx hb hK hP (hD.to (sm_wM_m _ _)) hS 37 35 (sm_aM37 σ3 α) (sm_yM37 α) h5 dX12_copy_23 (fun H locs hP _ hS => ?_)
  rw [sm_rM37] at hP
  obtain ⟨σ6, eσ6⟩ : ∃ x : sm_S, x = sm_r σ3 37 (upd (σ3.2.2.2.1 37) p2.toNatClampNeg (vp_nar .boolean ((σ3.2.2.2.1 37) p1.toNatClampNeg))) := ⟨_, rfl⟩
  replace hF := hF σ6 eσ6
  rw [← eσ6] at hP
  exact W.vret hx hb hr (fun t ht hW => ⟨⟨σ6, rfl, hF, (by unfold sm_B; rw [ht]; exact hP)⟩, hS.F ht⟩) hS.2.2 dX12_copy_24
theorem dX12_noRoom_0 : decode cX12_noRoom 0 = .ok (.aload_n 0, 1) := by decide +kernel
theorem dX12_noRoom_1 : decode cX12_noRoom 1 = .ok (.iconst 4, 1) := by decide +kernel
theorem dX12_noRoom_2 : decode cX12_noRoom 2 = .ok (.putfield 152, 3) := by decide +kernel
theorem dX12_noRoom_5 : decode cX12_noRoom 5 = .ok (.iconst 0, 1) := by decide +kernel
theorem dX12_noRoom_6 : decode cX12_noRoom 6 = .ok (.ireturn, 1) := by decide +kernel
def wp_X12_noRoom : List Cond := .code yX12_noRoom cX12_noRoom 1 (some .boolean) :: ([.fieldLink RX12 152 "SteadyMachineModel" "state" "I"] ++ wsX120)
theorem wq_X12_noRoom : wp_X12_noRoom.all goodWord = true := wa_c rfl (wa_a (by decide +kernel) uq_X12)
theorem wt_X12_noRoom : GoodIn lw_tbl wp_X12_noRoom := wm_c (List.mem_of_getElem? (i := 1712) (by decide +kernel)) rfl (wm_a (goodIn_r _ [1516] (by decide +kernel) (by decide +kernel)) ut_X12)
theorem wi_X12_noRoom_X12 : ∀ w ∈ wsX120, w ∈ wp_X12_noRoom := fun w h => List.mem_cons_of_mem _ (List.mem_append_right _ h)
set_option maxHeartbeats 4000000 in
set_option maxRecDepth 100000 in
theorem c_X12_noRoom (l : Launch) (D : va_G) (sz t0 : Nat) (σ : sm_S) (α : sm_A) (K : Int32 → sm_S → Prop) (hF : mp_X12_noRoom σ K) : Met l yX12_noRoom wp_X12_noRoom { frames := 0, cells := 0, slots := 0, locals := 0 } (sm_P sm_wM sm_tM 40 D sz t0 σ α [.ref (α.1 1)]) (va_Qi K (sm_B sm_wM D α) (sm_a α 40 sz)) 0 0 (sm_a α 40 sz) := by
  refine Met.ofW (cc := cX12_noRoom) (maxL := 1) (ret := (some .boolean)) (by decide) rfl ?_
  intro p e s m args below meth c s₁ B hml hv
  obtain ⟨rfl, hsz, hP, hK, hD0, hE⟩ := hv
  have hx := B.exec
  have hb := B.bytes
  have hr := B.returns
  have hts := atoms_spec (ws := wp_X12_noRoom) B.pre
  have hown : s.vm.findClass RX12 = some m.cls := findClass_of_methodNamed B.named
  have hlocks := B.notSynchronized
  subst hsz
  have hD : sm_D (sm_a α 40 s.heap.size) α 40 := hD0.own
  have hA : ∀ q : Nat, s.heap.size ≤ q → sm_a α 40 s.heap.size q := fun q h => Or.inr h
  generalize hAe : sm_a α 40 s.heap.size = A at hD hA hE ⊢
  have hS : va_S A s.heap s.heap [] := va_S.rf
  have in_X12 : ∀ w ∈ wsX120, w ∈ wp_X12_noRoom := wi_X12_noRoom_X12
  have k_0 := hts (.fieldLink RX12 152 "SteadyMachineModel" "state" "I") (by decide +kernel)
  have hl := lv_entry ([.ref (α.1 1)]) (n := 1) (Nat.le_of_ble_eq_true rfl)
  rw [lg_entry_eq]
  generalize (lg_sl ([.ref (α.1 1)]) ++ List.replicate (1 - (lg_sl ([.ref (α.1 1)])).length) Slot.unset).toArray = ls at hl ⊢
  have hl : lv_has ls 1 [(0, .ref (α.1 1))] := hl
  unfold mp_X12_noRoom at hF
  revert hP hS
  generalize hLo : ([] : List Loc) = locs
  suffices h9 : ∀ (H : Heap) (locs : List Loc), va_P D vwCl (sm_wM σ α) H → va_S A s.heap H locs → W p l e (headSpec wp_X12_noRoom { frames := 0, cells := 0, slots := 0, locals := 0 }).room s m ([.ref (α.1 1)] : List Value).toArray below meth c H locs 0 0 (MQ below (va_Qi K (sm_B sm_wM D α) A) ([.ref (α.1 1)] : List Value).toArray s 0 0 A) (F0 m 0 ls []) from fun hP hS => h9 s.heap locs hP hS
  intro H locs hP hS
  refine lv_aload_n hx hb dX12_noRoom_0 rfl (lv_at hl 0 rfl) ?_
  refine lv_iconst (v := 4) hx hb dX12_noRoom_1 (by decide) ?_
  refine va_put (D := D) (ci := 12) (v := .int 4) (ty := .int) (C := RX12) (T := TX12) (N := 42) hx hb hts in_X12 tyX12 tyX12_ok nmX12 hown hK hP (hD.to (sm_wM_m _ _)) hS 1 (sm_gX12 σ α) rfl 26 (by decide) k_0 (fun _ h9 => h9) rfl (by decide +kernel) rfl rfl (Nat.le_of_ble_eq_true rfl) dX12_noRoom_2 (fun H locs hP _ hS => ?_)
  rw [sm_iM17] at hP
  obtain ⟨σ1, eσ1⟩ : ∃ x : sm_S, x = sm_i σ 17 4 := ⟨_, rfl⟩
  replace hF := hF σ1 eσ1
  rw [← eσ1] at hP
  refine lv_iconst (v := 0) hx hb dX12_noRoom_5 (by decide) ?_
  exact W.zret (v := 0) hx hb hr sm_z0.1 (fun t ht hW => ⟨⟨0, σ1, rfl, hF, (by unfold sm_B; rw [ht]; exact hP)⟩, hS.F ht⟩) hS.2.2 dX12_noRoom_6
theorem dX12_fault_0 : decode cX12_fault 0 = .ok (.aload_n 0, 1) := by decide +kernel
theorem dX12_fault_1 : decode cX12_fault 1 = .ok (.getfield 10, 3) := by decide +kernel
theorem dX12_fault_4 : decode cX12_fault 4 = .ok (.getfield 323, 3) := by decide +kernel
theorem dX12_fault_7 : decode cX12_fault 7 = .ok (.iload_n 1, 1) := by decide +kernel
theorem dX12_fault_8 : decode cX12_fault 8 = .ok (.iaload, 1) := by decide +kernel
theorem dX12_fault_9 : decode cX12_fault 9 = .ok (.istore_n 2, 1) := by decide +kernel
theorem dX12_fault_10 : decode cX12_fault 10 = .ok (.aload_n 0, 1) := by decide +kernel
theorem dX12_fault_11 : decode cX12_fault 11 = .ok (.iconst 1, 1) := by decide +kernel
theorem dX12_fault_12 : decode cX12_fault 12 = .ok (.aload_n 0, 1) := by decide +kernel
theorem dX12_fault_13 : decode cX12_fault 13 = .ok (.getfield 10, 3) := by decide +kernel
theorem dX12_fault_16 : decode cX12_fault 16 = .ok (.getfield 292, 3) := by decide +kernel
theorem dX12_fault_19 : decode cX12_fault 19 = .ok (.iload_n 2, 1) := by decide +kernel
theorem dX12_fault_20 : decode cX12_fault 20 = .ok (.iaload, 1) := by decide +kernel
theorem dX12_fault_21 : decode cX12_fault 21 = .ok (.iadd, 1) := by decide +kernel
theorem dX12_fault_22 : decode cX12_fault 22 = .ok (.invokevirtual 274, 3) := by decide +kernel
theorem dX12_fault_25 : decode cX12_fault 25 = .ok (.ifCond .ne 8, 3) := by decide +kernel
theorem dX12_fault_28 : decode cX12_fault 28 = .ok (.aload_n 0, 1) := by decide +kernel
theorem dX12_fault_29 : decode cX12_fault 29 = .ok (.invokevirtual 326, 3) := by decide +kernel
theorem dX12_fault_32 : decode cX12_fault 32 = .ok (.ireturn, 1) := by decide +kernel
theorem dX12_fault_33 : decode cX12_fault 33 = .ok (.aload_n 0, 1) := by decide +kernel
theorem dX12_fault_34 : decode cX12_fault 34 = .ok (.iload_n 2, 1) := by decide +kernel
theorem dX12_fault_35 : decode cX12_fault 35 = .ok (.invokevirtual 329, 3) := by decide +kernel
theorem dX12_fault_38 : decode cX12_fault 38 = .ok (.istore_n 3, 1) := by decide +kernel
theorem dX12_fault_39 : decode cX12_fault 39 = .ok (.aload_n 0, 1) := by decide +kernel
theorem dX12_fault_40 : decode cX12_fault 40 = .ok (.iconst 1, 1) := by decide +kernel
theorem dX12_fault_41 : decode cX12_fault 41 = .ok (.putfield 259, 3) := by decide +kernel
theorem dX12_fault_44 : decode cX12_fault 44 = .ok (.aload_n 0, 1) := by decide +kernel
theorem dX12_fault_45 : decode cX12_fault 45 = .ok (.iload_n 3, 1) := by decide +kernel
theorem dX12_fault_46 : decode cX12_fault 46 = .ok (.putfield 301, 3) := by decide +kernel
theorem dX12_fault_49 : decode cX12_fault 49 = .ok (.iconst 1, 1) := by decide +kernel
theorem dX12_fault_50 : decode cX12_fault 50 = .ok (.ireturn, 1) := by decide +kernel
def wp_X12_fault : List Cond := .code yX12_fault cX12_fault 4 (some .boolean) :: ((((([.fieldLink RX12 10 "SteadyMachineModel" "image" "LSteadyMachineModel$Image;", .fieldLink RX12 259 "SteadyMachineModel" "flies" "Z", .fieldLink RX12 301 "SteadyMachineModel" "flying" "I"] ++ (wsV RX12 274 RX12 yX12_make wp_X12_make)) ++ (wsV RX12 329 RX12 yX12_object wp_X12_object)) ++ (wsV RX12 326 RX12 yX12_noRoom wp_X12_noRoom)) ++ wsX110) ++ wsX120)
theorem wq_X12_fault : wp_X12_fault.all goodWord = true := wa_c rfl (wa_a (wa_a (wa_a (wa_a (wa_a (by decide +kernel) (wa_V wq_X12_make)) (wa_V wq_X12_object)) (wa_V wq_X12_noRoom)) uq_X11) uq_X12)
theorem wt_X12_fault : GoodIn lw_tbl wp_X12_fault := wm_c (List.mem_of_getElem? (i := 1728) (by decide +kernel)) rfl (wm_a (wm_a (wm_a (wm_a (wm_a (goodIn_r _ [1490, 1514, 1515] (by decide +kernel) (by decide +kernel)) (wm_a (goodIn_r _ [1630, 1632, 102, 147] (by decide +kernel) (by decide +kernel)) wt_X12_make)) (wm_a (goodIn_r _ [1713, 1715, 121, 147] (by decide +kernel) (by decide +kernel)) wt_X12_object)) (wm_a (goodIn_r _ [1709, 1711, 120, 147] (by decide +kernel) (by decide +kernel)) wt_X12_noRoom)) ut_X11) ut_X12)
theorem wg_X12_fault_X12_make_274 : GoodIn wp_X12_fault (wsV RX12 274 RX12 yX12_make wp_X12_make) := goodIn_sub (fun w h => List.mem_cons_of_mem _ (List.mem_append_left _ (List.mem_append_left _ (List.mem_append_left _ (List.mem_append_left _ (List.mem_append_right _ h)))))) (wa_V wq_X12_make)
theorem wg_X12_fault_X12_object_329 : GoodIn wp_X12_fault (wsV RX12 329 RX12 yX12_object wp_X12_object) := goodIn_sub (fun w h => List.mem_cons_of_mem _ (List.mem_append_left _ (List.mem_append_left _ (List.mem_append_left _ (List.mem_append_right _ h))))) (wa_V wq_X12_object)
theorem wg_X12_fault_X12_noRoom_326 : GoodIn wp_X12_fault (wsV RX12 326 RX12 yX12_noRoom wp_X12_noRoom) := goodIn_sub (fun w h => List.mem_cons_of_mem _ (List.mem_append_left _ (List.mem_append_left _ (List.mem_append_right _ h)))) (wa_V wq_X12_noRoom)
theorem wi_X12_fault_X11 : ∀ w ∈ wsX110, w ∈ wp_X12_fault := fun w h => List.mem_cons_of_mem _ (List.mem_append_left _ (List.mem_append_right _ h))
theorem wi_X12_fault_X12 : ∀ w ∈ wsX120, w ∈ wp_X12_fault := fun w h => List.mem_cons_of_mem _ (List.mem_append_right _ h)
set_option maxHeartbeats 4000000 in
set_option maxRecDepth 100000 in
theorem c_X12_fault (l : Launch) (D : va_G) (sz t0 : Nat) (σ : sm_S) (α : sm_A) (p1 : Int32) (K : Int32 → sm_S → Prop) (hF : mp_X12_fault σ p1 K) : Met l yX12_fault wp_X12_fault { frames := 5, cells := 0, slots := 0, locals := 123 } (sm_P sm_wM sm_tM 40 D sz t0 σ α [.ref (α.1 1), .int p1]) (va_Qi K (sm_B sm_wM D α) (sm_a α 40 sz)) 0 0 (sm_a α 40 sz) := by
  refine Met.ofW (cc := cX12_fault) (maxL := 4) (ret := (some .boolean)) (by decide) rfl ?_
  intro p e s m args below meth c s₁ B hml hv
  obtain ⟨rfl, hsz, hP, hK, hD0, hE⟩ := hv
  have hx := B.exec
  have hb := B.bytes
  have hr := B.returns
  have hts := atoms_spec (ws := wp_X12_fault) B.pre
  have hown : s.vm.findClass RX12 = some m.cls := findClass_of_methodNamed B.named
  have hlocks := B.notSynchronized
  subst hsz
  have hD : sm_D (sm_a α 40 s.heap.size) α 40 := hD0.own
  have hA : ∀ q : Nat, s.heap.size ≤ q → sm_a α 40 s.heap.size q := fun q h => Or.inr h
  generalize hAe : sm_a α 40 s.heap.size = A at hD hA hE ⊢
  have hS : va_S A s.heap s.heap [] := va_S.rf
  have in_X11 : ∀ w ∈ wsX110, w ∈ wp_X12_fault := wi_X12_fault_X11
  have in_X12 : ∀ w ∈ wsX120, w ∈ wp_X12_fault := wi_X12_fault_X12
  have k_0 := hts (.fieldLink RX12 10 "SteadyMachineModel" "image" "LSteadyMachineModel$Image;") (by decide +kernel)
  have k_1 := hts (.fieldLink RX12 259 "SteadyMachineModel" "flies" "Z") (by decide +kernel)
  have k_2 := hts (.fieldLink RX12 301 "SteadyMachineModel" "flying" "I") (by decide +kernel)
  have hl := lv_entry ([.ref (α.1 1), .int p1]) (n := 4) (Nat.le_of_ble_eq_true rfl)
  rw [lg_entry_eq]
  generalize (lg_sl ([.ref (α.1 1), .int p1]) ++ List.replicate (4 - (lg_sl ([.ref (α.1 1), .int p1])).length) Slot.unset).toArray = ls at hl ⊢
  have hl : lv_has ls 4 [(0, .ref (α.1 1)), (1, .int p1)] := hl
  unfold mp_X12_fault at hF
  revert hP hS
  generalize hLo : ([] : List Loc) = locs
  suffices h9 : ∀ (H : Heap) (locs : List Loc), va_P D vwCl (sm_wM σ α) H → va_S A s.heap H locs → W p l e (headSpec wp_X12_fault { frames := 5, cells := 0, slots := 0, locals := 123 }).room s m ([.ref (α.1 1), .int p1] : List Value).toArray below meth c H locs 0 0 (MQ below (va_Qi K (sm_B sm_wM D α) A) ([.ref (α.1 1), .int p1] : List Value).toArray s 0 0 A) (F0 m 0 ls []) from fun hP hS => h9 s.heap locs hP hS
  intro H locs hP hS
  refine lv_aload_n hx hb dX12_fault_0 rfl (lv_at hl 0 rfl) ?_
  refine va_get (D := D) (ci := 12) (v := .ref (α.1 0)) (C := RX12) (T := TX12) (N := 42) hx hb hts in_X12 hown hK hP 1 (sm_gX12 σ α) rfl 0 (by decide) k_0 (fun _ h9 => h9) rfl dX12_fault_1 ?_
  refine va_getN (D := D) (ci := 11) (v := .ref (α.1 10)) (C := RX11) (T := TX11) (N := 28) hx hb hts in_X11 hown hK hP 0 (sm_gX11 σ α) rfl 14 (by decide) (va_Nw.use rfl (hE.1 (.fieldLinkNest "SteadyMachineModel" 323 "SteadyMachineModel$Image" "throwns" "[I" "SteadyMachineModel") (by decide +kernel))) (fun _ h9 => h9) rfl dX12_fault_4 ?_
  refine lv_iload_n hx hb dX12_fault_7 rfl (lv_at hl 1 rfl) ?_
  obtain ⟨h1, hF⟩ := hF
  refine va_iald (n := (σ.2.2.1 10)) (f := (σ.2.2.2.1 10)) hx hb hK hP 10 8 (sm_aM10 σ α) (sm_yM10 α) h1 dX12_fault_8 ?_
  refine lv_topi (fun v2 ev2 => ?_)
  replace hF := hF v2 ev2
  refine lv_istore_n (lv' := [(2, .int v2), (0, .ref (α.1 1)), (1, .int p1)]) hx hb dX12_fault_9 rfl hl (by decide) rfl (fun ls hl => ?_)
  refine lv_aload_n hx hb dX12_fault_10 rfl (lv_at hl 1 rfl) ?_
  refine lv_iconst (v := 1) hx hb dX12_fault_11 (by decide) ?_
  refine lv_aload_n hx hb dX12_fault_12 rfl (lv_at hl 1 rfl) ?_
  refine va_get (D := D) (ci := 12) (v := .ref (α.1 0)) (C := RX12) (T := TX12) (N := 42) hx hb hts in_X12 hown hK hP 1 (sm_gX12 σ α) rfl 0 (by decide) k_0 (fun _ h9 => h9) rfl dX12_fault_13 ?_
  refine va_getN (D := D) (ci := 11) (v := .ref (α.1 6)) (C := RX11) (T := TX11) (N := 28) hx hb hts in_X11 hown hK hP 0 (sm_gX11 σ α) rfl 10 (by decide) (va_Nw.use rfl (hE.1 (.fieldLinkNest "SteadyMachineModel" 292 "SteadyMachineModel$Image" "fieldCounts" "[I" "SteadyMachineModel") (by decide +kernel))) (fun _ h9 => h9) rfl dX12_fault_16 ?_
  refine lv_iload_n hx hb dX12_fault_19 rfl (lv_at hl 0 rfl) ?_
  obtain ⟨h3, hF⟩ := hF
  refine va_iald (n := (σ.2.2.1 6)) (f := (σ.2.2.2.1 6)) hx hb hK hP 6 4 (sm_aM6 σ α) (sm_yM6 α) h3 dX12_fault_20 ?_
  refine lv_iadd hx hb dX12_fault_21 ?_
  refine sm_vi (As := [.int (1 + ((σ.2.2.2.1 6) v2.toNatClampNeg))]) (rest := []) hP hK hD hE hS hA ⟨hx, hb, hml, hown, hts⟩ hl.1 (c_X12_make l D H.size t0 σ α (1 + ((σ.2.2.2.1 6) v2.toNatClampNeg)) _ hF) (cwV 1 hts wg_X12_fault_X12_make_274 rfl rfl rfl (by decide +kernel) ⟨Nat.le_of_ble_eq_true rfl, Nat.le_of_ble_eq_true rfl⟩) (va_recv hK hP (ci := 12) (q0 := 1) rfl (sm_gX12 σ α)) rfl rfl (Nat.le_of_ble_eq_true rfl) dX12_fault_22 ⟨Nat.zero_le _, Nat.zero_le _⟩ (fun r5 σ4 H locs hF hP hS => ?_)
  refine lv_if_ne (tgt := 33) hx hb dX12_fault_25 (by decide) (fun h6 => ?_) (fun h6 => ?_)
  · replace hF := hF.1 h6
    refine lv_aload_n hx hb dX12_fault_33 rfl (lv_at hl 1 rfl) ?_
    refine lv_iload_n hx hb dX12_fault_34 rfl (lv_at hl 0 rfl) ?_
    refine sm_vi (As := [.int v2]) (rest := []) hP hK hD hE hS hA ⟨hx, hb, hml, hown, hts⟩ hl.1 (c_X12_object l D H.size t0 σ4 α v2 _ hF) (cwV 1 hts wg_X12_fault_X12_object_329 rfl rfl rfl (by decide +kernel) ⟨Nat.le_of_ble_eq_true rfl, Nat.le_of_ble_eq_true rfl⟩) (va_recv hK hP (ci := 12) (q0 := 1) rfl (sm_gX12 σ4 α)) rfl rfl (Nat.le_of_ble_eq_true rfl) dX12_fault_35 ⟨Nat.zero_le _, Nat.zero_le _⟩ (fun r8 σ7 H locs hF hP hS => ?_)
    refine lv_istore_n (lv' := [(3, .int r8), (2, .int v2), (0, .ref (α.1 1)), (1, .int p1)]) hx hb dX12_fault_38 rfl hl (by decide) rfl (fun ls hl => ?_)
    refine lv_aload_n hx hb dX12_fault_39 rfl (lv_at hl 2 rfl) ?_
    refine lv_iconst (v := 1) hx hb dX12_fault_40 (by decide) ?_
    refine va_put (D := D) (ci := 12) (v := .int 1) (ty := .boolean) (C := RX12) (T := TX12) (N := 42) hx hb hts in_X12 tyX12 tyX12_ok nmX12 hown hK hP (hD.to (sm_wM_m _ _)) hS 1 (sm_gX12 σ7 α) rfl 24 (by decide) k_1 (fun _ h9 => h9) rfl (by decide +kernel) sm_z1.1 sm_z1.2 (Nat.le_of_ble_eq_true rfl) dX12_fault_41 (fun H locs hP _ hS => ?_)
    rw [sm_iM15] at hP
    obtain ⟨σ9, eσ9⟩ : ∃ x : sm_S, x = sm_i σ7 15 1 := ⟨_, rfl⟩
    replace hF := hF σ9 eσ9
    rw [← eσ9] at hP
    refine lv_aload_n hx hb dX12_fault_44 rfl (lv_at hl 2 rfl) ?_
    refine lv_iload_n hx hb dX12_fault_45 rfl (lv_at hl 0 rfl) ?_
    refine va_put (D := D) (ci := 12) (v := .int r8) (ty := .int) (C := RX12) (T := TX12) (N := 42) hx hb hts in_X12 tyX12 tyX12_ok nmX12 hown hK hP (hD.to (sm_wM_m _ _)) hS 1 (sm_gX12 σ9 α) rfl 25 (by decide) k_2 (fun _ h9 => h9) rfl (by decide +kernel) rfl rfl (Nat.le_of_ble_eq_true rfl) dX12_fault_46 (fun H locs hP _ hS => ?_)
    rw [sm_iM16] at hP
    obtain ⟨σ10, eσ10⟩ : ∃ x : sm_S, x = sm_i σ9 16 r8 := ⟨_, rfl⟩
    replace hF := hF σ10 eσ10
    rw [← eσ10] at hP
    refine lv_iconst (v := 1) hx hb dX12_fault_49 (by decide) ?_
    exact W.zret (v := 1) hx hb hr sm_z1.1 (fun t ht hW => ⟨⟨1, σ10, rfl, hF, (by unfold sm_B; rw [ht]; exact hP)⟩, hS.F ht⟩) hS.2.2 dX12_fault_50
  · replace hF := hF.2 h6
    refine lv_aload_n hx hb dX12_fault_28 rfl (lv_at hl 1 rfl) ?_
    refine sm_vi (As := []) (rest := []) hP hK hD hE hS hA ⟨hx, hb, hml, hown, hts⟩ hl.1 (c_X12_noRoom l D H.size t0 σ4 α _ hF) (cwV 0 hts wg_X12_fault_X12_noRoom_326 rfl rfl rfl (by decide +kernel) ⟨Nat.le_of_ble_eq_true rfl, Nat.le_of_ble_eq_true rfl⟩) (va_recv hK hP (ci := 12) (q0 := 1) rfl (sm_gX12 σ4 α)) rfl rfl (Nat.le_of_ble_eq_true rfl) dX12_fault_29 ⟨Nat.zero_le _, Nat.zero_le _⟩ (fun r12 σ11 H locs hF hP hS => ?_)
    obtain ⟨h13, hF⟩ := hF
    exact W.zret (v := r12) hx hb hr h13.1 (fun t ht hW => ⟨⟨r12, σ11, rfl, hF, (by unfold sm_B; rw [ht]; exact hP)⟩, hS.F ht⟩) hS.2.2 dX12_fault_32
theorem dX12_leave_0 : decode cX12_leave 0 = .ok (.aload_n 0, 1) := by decide +kernel
theorem dX12_leave_1 : decode cX12_leave 1 = .ok (.dup, 1) := by decide +kernel
theorem dX12_leave_2 : decode cX12_leave 2 = .ok (.getfield 256, 3) := by decide +kernel
theorem dX12_leave_5 : decode cX12_leave 5 = .ok (.iconst 1, 1) := by decide +kernel
theorem dX12_leave_6 : decode cX12_leave 6 = .ok (.isub, 1) := by decide +kernel
theorem dX12_leave_7 : decode cX12_leave 7 = .ok (.putfield 256, 3) := by decide +kernel
theorem dX12_leave_10 : decode cX12_leave 10 = .ok (.return_, 1) := by decide +kernel
def wp_X12_leave : List Cond := .code yX12_leave cX12_leave 1 none :: ([.fieldLink RX12 256 "SteadyMachineModel" "frames" "I"] ++ wsX120)
theorem wq_X12_leave : wp_X12_leave.all goodWord = true := wa_c rfl (wa_a (by decide +kernel) uq_X12)
theorem wt_X12_leave : GoodIn lw_tbl wp_X12_leave := wm_c (List.mem_of_getElem? (i := 1685) (by decide +kernel)) rfl (wm_a (goodIn_r _ [1508] (by decide +kernel) (by decide +kernel)) ut_X12)
theorem wi_X12_leave_X12 : ∀ w ∈ wsX120, w ∈ wp_X12_leave := fun w h => List.mem_cons_of_mem _ (List.mem_append_right _ h)
set_option maxHeartbeats 4000000 in
set_option maxRecDepth 100000 in
theorem c_X12_leave (l : Launch) (D : va_G) (sz t0 : Nat) (σ : sm_S) (α : sm_A) (K : sm_S → Prop) (hF : mp_X12_leave σ K) : Met l yX12_leave wp_X12_leave { frames := 0, cells := 0, slots := 0, locals := 0 } (sm_P sm_wM sm_tM 40 D sz t0 σ α [.ref (α.1 1)]) (va_Qv K (sm_B sm_wM D α) (sm_a α 40 sz)) 0 0 (sm_a α 40 sz) := by
  refine Met.ofW (cc := cX12_leave) (maxL := 1) (ret := none) (by decide) rfl ?_
  intro p e s m args below meth c s₁ B hml hv
  obtain ⟨rfl, hsz, hP, hK, hD0, hE⟩ := hv
  have hx := B.exec
  have hb := B.bytes
  have hr := B.returns
  have hts := atoms_spec (ws := wp_X12_leave) B.pre
  have hown : s.vm.findClass RX12 = some m.cls := findClass_of_methodNamed B.named
  have hlocks := B.notSynchronized
  subst hsz
  have hD : sm_D (sm_a α 40 s.heap.size) α 40 := hD0.own
  have hA : ∀ q : Nat, s.heap.size ≤ q → sm_a α 40 s.heap.size q := fun q h => Or.inr h
  generalize hAe : sm_a α 40 s.heap.size = A at hD hA hE ⊢
  have hS : va_S A s.heap s.heap [] := va_S.rf
  have in_X12 : ∀ w ∈ wsX120, w ∈ wp_X12_leave := wi_X12_leave_X12
  have k_0 := hts (.fieldLink RX12 256 "SteadyMachineModel" "frames" "I") (by decide +kernel)
  have hl := lv_entry ([.ref (α.1 1)]) (n := 1) (Nat.le_of_ble_eq_true rfl)
  rw [lg_entry_eq]
  generalize (lg_sl ([.ref (α.1 1)]) ++ List.replicate (1 - (lg_sl ([.ref (α.1 1)])).length) Slot.unset).toArray = ls at hl ⊢
  have hl : lv_has ls 1 [(0, .ref (α.1 1))] := hl
  unfold mp_X12_leave at hF
  revert hP hS
  generalize hLo : ([] : List Loc) = locs
  suffices h9 : ∀ (H : Heap) (locs : List Loc), va_P D vwCl (sm_wM σ α) H → va_S A s.heap H locs → W p l e (headSpec wp_X12_leave { frames := 0, cells := 0, slots := 0, locals := 0 }).room s m ([.ref (α.1 1)] : List Value).toArray below meth c H locs 0 0 (MQ below (va_Qv K (sm_B sm_wM D α) A) ([.ref (α.1 1)] : List Value).toArray s 0 0 A) (F0 m 0 ls []) from fun hP hS => h9 s.heap locs hP hS
  intro H locs hP hS
  refine lv_aload_n hx hb dX12_leave_0 rfl (lv_at hl 0 rfl) ?_
  refine lv_dup hx hb dX12_leave_1 rfl ?_
  refine va_get (D := D) (ci := 12) (v := .int (σ.1 14)) (C := RX12) (T := TX12) (N := 42) hx hb hts in_X12 hown hK hP 1 (sm_gX12 σ α) rfl 18 (by decide) k_0 (fun _ h9 => h9) rfl dX12_leave_2 ?_
  refine lv_iconst (v := 1) hx hb dX12_leave_5 (by decide) ?_
  refine lv_isub hx hb dX12_leave_6 ?_
  refine va_put (D := D) (ci := 12) (v := .int ((σ.1 14) - 1)) (ty := .int) (C := RX12) (T := TX12) (N := 42) hx hb hts in_X12 tyX12 tyX12_ok nmX12 hown hK hP (hD.to (sm_wM_m _ _)) hS 1 (sm_gX12 σ α) rfl 18 (by decide) k_0 (fun _ h9 => h9) rfl (by decide +kernel) rfl rfl (Nat.le_of_ble_eq_true rfl) dX12_leave_7 (fun H locs hP _ hS => ?_)
  rw [sm_iM14] at hP
  obtain ⟨σ1, eσ1⟩ : ∃ x : sm_S, x = sm_i σ 14 ((σ.1 14) - 1) := ⟨_, rfl⟩
  replace hF := hF σ1 eσ1
  rw [← eσ1] at hP
  exact W.vret hx hb hr (fun t ht hW => ⟨⟨σ1, rfl, hF, (by unfold sm_B; rw [ht]; exact hP)⟩, hS.F ht⟩) hS.2.2 dX12_leave_10
theorem dX12_fly_0 : decode cX12_fly 0 = .ok (.aload_n 0, 1) := by decide +kernel
theorem dX12_fly_1 : decode cX12_fly 1 = .ok (.invokevirtual 317, 3) := by decide +kernel
theorem dX12_fly_4 : decode cX12_fly 4 = .ok (.istore_n 1, 1) := by decide +kernel
theorem dX12_fly_5 : decode cX12_fly 5 = .ok (.aload_n 0, 1) := by decide +kernel
theorem dX12_fly_6 : decode cX12_fly 6 = .ok (.getfield 208, 3) := by decide +kernel
theorem dX12_fly_9 : decode cX12_fly 9 = .ok (.aload_n 0, 1) := by decide +kernel
theorem dX12_fly_10 : decode cX12_fly 10 = .ok (.getfield 256, 3) := by decide +kernel
theorem dX12_fly_13 : decode cX12_fly 13 = .ok (.iconst 1, 1) := by decide +kernel
theorem dX12_fly_14 : decode cX12_fly 14 = .ok (.isub, 1) := by decide +kernel
theorem dX12_fly_15 : decode cX12_fly 15 = .ok (.iaload, 1) := by decide +kernel
theorem dX12_fly_16 : decode cX12_fly 16 = .ok (.istore_n 2, 1) := by decide +kernel
theorem dX12_fly_17 : decode cX12_fly 17 = .ok (.aload_n 0, 1) := by decide +kernel
theorem dX12_fly_18 : decode cX12_fly 18 = .ok (.getfield 10, 3) := by decide +kernel
theorem dX12_fly_21 : decode cX12_fly 21 = .ok (.getfield 119, 3) := by decide +kernel
theorem dX12_fly_24 : decode cX12_fly 24 = .ok (.iload_n 1, 1) := by decide +kernel
theorem dX12_fly_25 : decode cX12_fly 25 = .ok (.iaload, 1) := by decide +kernel
theorem dX12_fly_26 : decode cX12_fly 26 = .ok (.istore_n 3, 1) := by decide +kernel
theorem dX12_fly_27 : decode cX12_fly 27 = .ok (.iload_n 3, 1) := by decide +kernel
theorem dX12_fly_28 : decode cX12_fly 28 = .ok (.aload_n 0, 1) := by decide +kernel
theorem dX12_fly_29 : decode cX12_fly 29 = .ok (.getfield 10, 3) := by decide +kernel
theorem dX12_fly_32 : decode cX12_fly 32 = .ok (.getfield 119, 3) := by decide +kernel
theorem dX12_fly_35 : decode cX12_fly 35 = .ok (.iload_n 1, 1) := by decide +kernel
theorem dX12_fly_36 : decode cX12_fly 36 = .ok (.iaload, 1) := by decide +kernel
theorem dX12_fly_37 : decode cX12_fly 37 = .ok (.bipush 7, 2) := by decide +kernel
theorem dX12_fly_39 : decode cX12_fly 39 = .ok (.aload_n 0, 1) := by decide +kernel
theorem dX12_fly_40 : decode cX12_fly 40 = .ok (.getfield 10, 3) := by decide +kernel
theorem dX12_fly_43 : decode cX12_fly 43 = .ok (.getfield 116, 3) := by decide +kernel
theorem dX12_fly_46 : decode cX12_fly 46 = .ok (.iload_n 1, 1) := by decide +kernel
theorem dX12_fly_47 : decode cX12_fly 47 = .ok (.iaload, 1) := by decide +kernel
theorem dX12_fly_48 : decode cX12_fly 48 = .ok (.imul, 1) := by decide +kernel
theorem dX12_fly_49 : decode cX12_fly 49 = .ok (.iadd, 1) := by decide +kernel
theorem dX12_fly_50 : decode cX12_fly 50 = .ok (.if_icmp .ge 112, 3) := by decide +kernel
theorem dX12_fly_53 : decode cX12_fly 53 = .ok (.aload_n 0, 1) := by decide +kernel
theorem dX12_fly_54 : decode cX12_fly 54 = .ok (.getfield 10, 3) := by decide +kernel
theorem dX12_fly_57 : decode cX12_fly 57 = .ok (.iload_n 3, 1) := by decide +kernel
theorem dX12_fly_58 : decode cX12_fly 58 = .ok (.invokevirtual 113, 3) := by decide +kernel
theorem dX12_fly_61 : decode cX12_fly 61 = .ok (.iload_n 2, 1) := by decide +kernel
theorem dX12_fly_62 : decode cX12_fly 62 = .ok (.if_icmp .gt 94, 3) := by decide +kernel
theorem dX12_fly_65 : decode cX12_fly 65 = .ok (.iload_n 2, 1) := by decide +kernel
theorem dX12_fly_66 : decode cX12_fly 66 = .ok (.aload_n 0, 1) := by decide +kernel
theorem dX12_fly_67 : decode cX12_fly 67 = .ok (.getfield 10, 3) := by decide +kernel
theorem dX12_fly_70 : decode cX12_fly 70 = .ok (.iload_n 3, 1) := by decide +kernel
theorem dX12_fly_71 : decode cX12_fly 71 = .ok (.iconst 2, 1) := by decide +kernel
theorem dX12_fly_72 : decode cX12_fly 72 = .ok (.iadd, 1) := by decide +kernel
theorem dX12_fly_73 : decode cX12_fly 73 = .ok (.invokevirtual 113, 3) := by decide +kernel
theorem dX12_fly_76 : decode cX12_fly 76 = .ok (.if_icmp .ge 80, 3) := by decide +kernel
theorem dX12_fly_79 : decode cX12_fly 79 = .ok (.aload_n 0, 1) := by decide +kernel
theorem dX12_fly_80 : decode cX12_fly 80 = .ok (.getfield 10, 3) := by decide +kernel
theorem dX12_fly_83 : decode cX12_fly 83 = .ok (.aload_n 0, 1) := by decide +kernel
theorem dX12_fly_84 : decode cX12_fly 84 = .ok (.getfield 183, 3) := by decide +kernel
theorem dX12_fly_87 : decode cX12_fly 87 = .ok (.aload_n 0, 1) := by decide +kernel
theorem dX12_fly_88 : decode cX12_fly 88 = .ok (.getfield 301, 3) := by decide +kernel
theorem dX12_fly_91 : decode cX12_fly 91 = .ok (.iaload, 1) := by decide +kernel
theorem dX12_fly_92 : decode cX12_fly 92 = .ok (.aload_n 0, 1) := by decide +kernel
theorem dX12_fly_93 : decode cX12_fly 93 = .ok (.getfield 10, 3) := by decide +kernel
theorem dX12_fly_96 : decode cX12_fly 96 = .ok (.getfield 111, 3) := by decide +kernel
theorem dX12_fly_99 : decode cX12_fly 99 = .ok (.iload_n 3, 1) := by decide +kernel
theorem dX12_fly_100 : decode cX12_fly 100 = .ok (.iconst 4, 1) := by decide +kernel
theorem dX12_fly_101 : decode cX12_fly 101 = .ok (.iadd, 1) := by decide +kernel
theorem dX12_fly_102 : decode cX12_fly 102 = .ok (.iaload, 1) := by decide +kernel
theorem dX12_fly_103 : decode cX12_fly 103 = .ok (.invokevirtual 14, 3) := by decide +kernel
theorem dX12_fly_106 : decode cX12_fly 106 = .ok (.ifCond .eq 50, 3) := by decide +kernel
theorem dX12_fly_109 : decode cX12_fly 109 = .ok (.aload_n 0, 1) := by decide +kernel
theorem dX12_fly_110 : decode cX12_fly 110 = .ok (.getfield 211, 3) := by decide +kernel
theorem dX12_fly_113 : decode cX12_fly 113 = .ok (.aload_n 0, 1) := by decide +kernel
theorem dX12_fly_114 : decode cX12_fly 114 = .ok (.getfield 256, 3) := by decide +kernel
theorem dX12_fly_117 : decode cX12_fly 117 = .ok (.iconst 1, 1) := by decide +kernel
theorem dX12_fly_118 : decode cX12_fly 118 = .ok (.isub, 1) := by decide +kernel
theorem dX12_fly_119 : decode cX12_fly 119 = .ok (.iconst 0, 1) := by decide +kernel
theorem dX12_fly_120 : decode cX12_fly 120 = .ok (.iastore, 1) := by decide +kernel
theorem dX12_fly_121 : decode cX12_fly 121 = .ok (.aload_n 0, 1) := by decide +kernel
theorem dX12_fly_122 : decode cX12_fly 122 = .ok (.aload_n 0, 1) := by decide +kernel
theorem dX12_fly_123 : decode cX12_fly 123 = .ok (.getfield 301, 3) := by decide +kernel
theorem dX12_fly_126 : decode cX12_fly 126 = .ok (.invokevirtual 332, 3) := by decide +kernel
theorem dX12_fly_129 : decode cX12_fly 129 = .ok (.aload_n 0, 1) := by decide +kernel
theorem dX12_fly_130 : decode cX12_fly 130 = .ok (.getfield 208, 3) := by decide +kernel
theorem dX12_fly_133 : decode cX12_fly 133 = .ok (.aload_n 0, 1) := by decide +kernel
theorem dX12_fly_134 : decode cX12_fly 134 = .ok (.getfield 256, 3) := by decide +kernel
theorem dX12_fly_137 : decode cX12_fly 137 = .ok (.iconst 1, 1) := by decide +kernel
theorem dX12_fly_138 : decode cX12_fly 138 = .ok (.isub, 1) := by decide +kernel
theorem dX12_fly_139 : decode cX12_fly 139 = .ok (.aload_n 0, 1) := by decide +kernel
theorem dX12_fly_140 : decode cX12_fly 140 = .ok (.getfield 10, 3) := by decide +kernel
theorem dX12_fly_143 : decode cX12_fly 143 = .ok (.iload_n 3, 1) := by decide +kernel
theorem dX12_fly_144 : decode cX12_fly 144 = .ok (.iconst 5, 1) := by decide +kernel
theorem dX12_fly_145 : decode cX12_fly 145 = .ok (.iadd, 1) := by decide +kernel
theorem dX12_fly_146 : decode cX12_fly 146 = .ok (.invokevirtual 113, 3) := by decide +kernel
theorem dX12_fly_149 : decode cX12_fly 149 = .ok (.iastore, 1) := by decide +kernel
theorem dX12_fly_150 : decode cX12_fly 150 = .ok (.aload_n 0, 1) := by decide +kernel
theorem dX12_fly_151 : decode cX12_fly 151 = .ok (.iconst 0, 1) := by decide +kernel
theorem dX12_fly_152 : decode cX12_fly 152 = .ok (.putfield 259, 3) := by decide +kernel
theorem dX12_fly_155 : decode cX12_fly 155 = .ok (.return_, 1) := by decide +kernel
theorem dX12_fly_156 : decode cX12_fly 156 = .ok (.iinc 3 7, 3) := by decide +kernel
theorem dX12_fly_159 : decode cX12_fly 159 = .ok (.goto (-132), 3) := by decide +kernel
theorem dX12_fly_162 : decode cX12_fly 162 = .ok (.aload_n 0, 1) := by decide +kernel
theorem dX12_fly_163 : decode cX12_fly 163 = .ok (.invokevirtual 335, 3) := by decide +kernel
theorem dX12_fly_166 : decode cX12_fly 166 = .ok (.aload_n 0, 1) := by decide +kernel
theorem dX12_fly_167 : decode cX12_fly 167 = .ok (.aload_n 0, 1) := by decide +kernel
theorem dX12_fly_168 : decode cX12_fly 168 = .ok (.getfield 256, 3) := by decide +kernel
theorem dX12_fly_171 : decode cX12_fly 171 = .ok (.ifCond .ne 7, 3) := by decide +kernel
theorem dX12_fly_174 : decode cX12_fly 174 = .ok (.iconst 3, 1) := by decide +kernel
theorem dX12_fly_175 : decode cX12_fly 175 = .ok (.goto 7, 3) := by decide +kernel
theorem dX12_fly_178 : decode cX12_fly 178 = .ok (.aload_n 0, 1) := by decide +kernel
theorem dX12_fly_179 : decode cX12_fly 179 = .ok (.getfield 152, 3) := by decide +kernel
theorem dX12_fly_182 : decode cX12_fly 182 = .ok (.putfield 152, 3) := by decide +kernel
theorem dX12_fly_185 : decode cX12_fly 185 = .ok (.return_, 1) := by decide +kernel
def wp_X12_fly : List Cond := .code yX12_fly cX12_fly 4 none :: ((((((([.fieldLink RX12 152 "SteadyMachineModel" "state" "I", .fieldLink RX12 10 "SteadyMachineModel" "image" "LSteadyMachineModel$Image;", .fieldLink RX12 256 "SteadyMachineModel" "frames" "I", .initialized RX11, .instanceMethod yX11_two, .selects RX11 yX11_two yX11_two, .fieldLink RX12 183 "SteadyMachineModel" "infos" "[I", .fieldLink RX12 301 "SteadyMachineModel" "flying" "I", .fieldLink RX12 211 "SteadyMachineModel" "highOf" "[I", .fieldLink RX12 208 "SteadyMachineModel" "placeOf" "[I", .fieldLink RX12 259 "SteadyMachineModel" "flies" "Z"] ++ (wsV RX12 335 RX12 yX12_leave wp_X12_leave)) ++ wp_X11_two) ++ (wsV RX12 14 RX11 yX11_isA wp_X11_isA)) ++ (wsV RX12 332 RX12 yX12_putThing wp_X12_putThing)) ++ (wsV RX12 317 RX12 yX12_method wp_X12_method)) ++ wsX110) ++ wsX120)
theorem wq_X12_fly : wp_X12_fly.all goodWord = true := wa_c rfl (wa_a (wa_a (wa_a (wa_a (wa_a (wa_a (wa_a (by decide +kernel) (wa_V wq_X12_leave)) wq_X11_two) (wa_V wq_X11_isA)) (wa_V wq_X12_putThing)) (wa_V wq_X12_method)) uq_X11) uq_X12)
theorem wt_X12_fly : GoodIn lw_tbl wp_X12_fly := wm_c (List.mem_of_getElem? (i := 1669) (by decide +kernel)) rfl (wm_a (wm_a (wm_a (wm_a (wm_a (wm_a (wm_a (goodIn_r _ [1516, 1490, 1508, 148, 1246, 77, 1499, 1515, 1511, 1510, 1514] (by decide +kernel) (by decide +kernel)) (wm_a (goodIn_r _ [1682, 1684, 114, 147] (by decide +kernel) (by decide +kernel)) wt_X12_leave)) wt_X11_two) (wm_a (goodIn_r _ [1294, 1295, 1296, 148] (by decide +kernel) (by decide +kernel)) wt_X11_isA)) (wm_a (goodIn_r _ [1674, 1676, 112, 147] (by decide +kernel) (by decide +kernel)) wt_X12_putThing)) (wm_a (goodIn_r _ [1670, 1672, 111, 147] (by decide +kernel) (by decide +kernel)) wt_X12_method)) ut_X11) ut_X12)
theorem wg_X12_fly_X12_leave_335 : GoodIn wp_X12_fly (wsV RX12 335 RX12 yX12_leave wp_X12_leave) := goodIn_sub (fun w h => List.mem_cons_of_mem _ (List.mem_append_left _ (List.mem_append_left _ (List.mem_append_left _ (List.mem_append_left _ (List.mem_append_left _ (List.mem_append_left _ (List.mem_append_right _ h)))))))) (wa_V wq_X12_leave)
theorem wg_X12_fly_X11_two_113 : GoodIn wp_X12_fly wp_X11_two := goodIn_sub (fun w h => List.mem_cons_of_mem _ (List.mem_append_left _ (List.mem_append_left _ (List.mem_append_left _ (List.mem_append_left _ (List.mem_append_left _ (List.mem_append_right _ h))))))) wq_X11_two
theorem wg_X12_fly_X11_isA_14 : GoodIn wp_X12_fly (wsV RX12 14 RX11 yX11_isA wp_X11_isA) := goodIn_sub (fun w h => List.mem_cons_of_mem _ (List.mem_append_left _ (List.mem_append_left _ (List.mem_append_left _ (List.mem_append_left _ (List.mem_append_right _ h)))))) (wa_V wq_X11_isA)
theorem wg_X12_fly_X12_putThing_332 : GoodIn wp_X12_fly (wsV RX12 332 RX12 yX12_putThing wp_X12_putThing) := goodIn_sub (fun w h => List.mem_cons_of_mem _ (List.mem_append_left _ (List.mem_append_left _ (List.mem_append_left _ (List.mem_append_right _ h))))) (wa_V wq_X12_putThing)
theorem wg_X12_fly_X12_method_317 : GoodIn wp_X12_fly (wsV RX12 317 RX12 yX12_method wp_X12_method) := goodIn_sub (fun w h => List.mem_cons_of_mem _ (List.mem_append_left _ (List.mem_append_left _ (List.mem_append_right _ h)))) (wa_V wq_X12_method)
theorem wi_X12_fly_X11 : ∀ w ∈ wsX110, w ∈ wp_X12_fly := fun w h => List.mem_cons_of_mem _ (List.mem_append_left _ (List.mem_append_right _ h))
theorem wi_X12_fly_X12 : ∀ w ∈ wsX120, w ∈ wp_X12_fly := fun w h => List.mem_cons_of_mem _ (List.mem_append_right _ h)
set_option maxHeartbeats 4000000 in
set_option maxRecDepth 100000 in
theorem c_X12_fly (l : Launch) (D : va_G) (sz t0 : Nat) (σ : sm_S) (α : sm_A) (K : sm_S → Prop) (hF : mp_X12_fly σ K) : Met l yX12_fly wp_X12_fly { frames := 3, cells := 0, slots := 0, locals := 62 } (sm_P sm_wM sm_tM 40 D sz t0 σ α [.ref (α.1 1)]) (va_Qv K (sm_B sm_wM D α) (sm_a α 40 sz)) 0 0 (sm_a α 40 sz) := by
  refine Met.ofW (cc := cX12_fly) (maxL := 4) (ret := none) (by decide) rfl ?_
  intro p e s m args below meth c s₁ B hml hv
  obtain ⟨rfl, hsz, hP, hK, hD0, hE⟩ := hv
  have hx := B.exec
  have hb := B.bytes
  have hr := B.returns
  have hts := atoms_spec (ws := wp_X12_fly) B.pre
  have hown : s.vm.findClass RX12 = some m.cls := findClass_of_methodNamed B.named
  have hlocks := B.notSynchronized
  subst hsz
  have hD : sm_D (sm_a α 40 s.heap.size) α 40 := hD0.own
  have hA : ∀ q : Nat, s.heap.size ≤ q → sm_a α 40 s.heap.size q := fun q h => Or.inr h
  generalize hAe : sm_a α 40 s.heap.size = A at hD hA hE ⊢
  have hS : va_S A s.heap s.heap [] := va_S.rf
  have in_X11 : ∀ w ∈ wsX110, w ∈ wp_X12_fly := wi_X12_fly_X11
  have in_X12 : ∀ w ∈ wsX120, w ∈ wp_X12_fly := wi_X12_fly_X12
  have k_0 := hts (.fieldLink RX12 152 "SteadyMachineModel" "state" "I") (by decide +kernel)
  have k_1 := hts (.fieldLink RX12 10 "SteadyMachineModel" "image" "LSteadyMachineModel$Image;") (by decide +kernel)
  have k_2 := hts (.fieldLink RX12 256 "SteadyMachineModel" "frames" "I") (by decide +kernel)
  have k_3 := hts (.initialized RX11) (by decide +kernel)
  have k_4 := hts (.instanceMethod yX11_two) (by decide +kernel)
  have k_5 := hts (.selects RX11 yX11_two yX11_two) (by decide +kernel)
  have k_6 := hts (.fieldLink RX12 183 "SteadyMachineModel" "infos" "[I") (by decide +kernel)
  have k_7 := hts (.fieldLink RX12 301 "SteadyMachineModel" "flying" "I") (by decide +kernel)
  have k_8 := hts (.fieldLink RX12 211 "SteadyMachineModel" "highOf" "[I") (by decide +kernel)
  have k_9 := hts (.fieldLink RX12 208 "SteadyMachineModel" "placeOf" "[I") (by decide +kernel)
  have k_10 := hts (.fieldLink RX12 259 "SteadyMachineModel" "flies" "Z") (by decide +kernel)
  have hl := lv_entry ([.ref (α.1 1)]) (n := 4) (Nat.le_of_ble_eq_true rfl)
  rw [lg_entry_eq]
  generalize (lg_sl ([.ref (α.1 1)]) ++ List.replicate (4 - (lg_sl ([.ref (α.1 1)])).length) Slot.unset).toArray = ls at hl ⊢
  have hl : lv_has ls 4 [(0, .ref (α.1 1))] := hl
  have B182 : ∀ (σ : sm_S) (y1 : Int32), mp_X12_fly_182 K σ y1 → sm_J p l e (headSpec wp_X12_fly { frames := 3, cells := 0, slots := 0, locals := 62 }).room s m ([.ref (α.1 1)] : List Value).toArray below meth c (MQ below (va_Qv K (sm_B sm_wM D α) A) ([.ref (α.1 1)] : List Value).toArray s 0 0 A) D A 4 (sm_wM σ α) 182 [] [.int y1, .ref (α.1 1)] := by
    intro σ y1 hF H locs ls hP hS hl
    unfold mp_X12_fly_182 at hF
    refine va_put (D := D) (ci := 12) (v := .int y1) (ty := .int) (C := RX12) (T := TX12) (N := 42) hx hb hts in_X12 tyX12 tyX12_ok nmX12 hown hK hP (hD.to (sm_wM_m _ _)) hS 1 (sm_gX12 σ α) rfl 26 (by decide) k_0 (fun _ h9 => h9) rfl (by decide +kernel) rfl rfl (Nat.le_of_ble_eq_true rfl) dX12_fly_182 (fun H locs hP _ hS => ?_)
    rw [sm_iM17] at hP
    obtain ⟨σ1, eσ1⟩ : ∃ x : sm_S, x = sm_i σ 17 y1 := ⟨_, rfl⟩
    replace hF := hF σ1 eσ1
    rw [← eσ1] at hP
    exact W.vret hx hb hr (fun t ht hW => ⟨⟨σ1, rfl, hF, (by unfold sm_B; rw [ht]; exact hP)⟩, hS.F ht⟩) hS.2.2 dX12_fly_185
  have B156 : ∀ (L27 : sm_S → Int32 → Int32 → Int32 → Prop) (hL27 : ∀ (σ : sm_S) (x1 : Int32) (x2 : Int32) (x3 : Int32), L27 σ x1 x2 x3 → sm_J p l e (headSpec wp_X12_fly { frames := 3, cells := 0, slots := 0, locals := 62 }).room s m ([.ref (α.1 1)] : List Value).toArray below meth c (MQ below (va_Qv K (sm_B sm_wM D α) A) ([.ref (α.1 1)] : List Value).toArray s 0 0 A) D A 4 (sm_wM σ α) 27 [(0, .ref (α.1 1)), (1, .int x1), (2, .int x2), (3, .int x3)] []) (σ : sm_S) (x1 : Int32) (x2 : Int32) (x3 : Int32), mp_X12_fly_156 L27 K σ x1 x2 x3 → sm_J p l e (headSpec wp_X12_fly { frames := 3, cells := 0, slots := 0, locals := 62 }).room s m ([.ref (α.1 1)] : List Value).toArray below meth c (MQ below (va_Qv K (sm_B sm_wM D α) A) ([.ref (α.1 1)] : List Value).toArray s 0 0 A) D A 4 (sm_wM σ α) 156 [(0, .ref (α.1 1)), (1, .int x1), (2, .int x2), (3, .int x3)] [] := by
    intro L27 hL27 σ x1 x2 x3 hF H locs ls hP hS hl
    unfold mp_X12_fly_156 at hF
    obtain ⟨v2, ev2⟩ : ∃ y : Int32, y = x3 + 7 := ⟨_, rfl⟩
    replace hF := hF v2 ev2
    refine lv_iinc (v := v2) (lv' := [(3, .int v2), (0, .ref (α.1 1)), (1, .int x1), (2, .int x2)]) hx hb dX12_fly_156 hl (k := 3) rfl (by rw [ev2]; rfl) (by decide) rfl (fun ls hl => ?_)
    refine lv_goto (tgt := 27) hx hb dX12_fly_159 (by decide) ?_
    exact hL27 σ x1 x2 v2 hF H locs ls hP hS (lv_sub hl [1, 2, 3, 0] rfl)
  have B27 : ∀ (n : Nat) (σ : sm_S) (x1 : Int32) (x2 : Int32) (x3 : Int32), mp_X12_fly_27 K n σ x1 x2 x3 → sm_J p l e (headSpec wp_X12_fly { frames := 3, cells := 0, slots := 0, locals := 62 }).room s m ([.ref (α.1 1)] : List Value).toArray below meth c (MQ below (va_Qv K (sm_B sm_wM D α) A) ([.ref (α.1 1)] : List Value).toArray s 0 0 A) D A 4 (sm_wM σ α) 27 [(0, .ref (α.1 1)), (1, .int x1), (2, .int x2), (3, .int x3)] [] := by
    intro n27
    induction n27 with
    | zero =>
      intro σ x1 x2 x3 hF
      exact hF.elim
    | succ n27 ih27 =>
      intro σ x1 x2 x3 hF H locs ls hP hS hl
      unfold mp_X12_fly_27 at hF
      refine lv_iload_n hx hb dX12_fly_27 rfl (lv_at hl 3 rfl) ?_
      refine lv_aload_n hx hb dX12_fly_28 rfl (lv_at hl 0 rfl) ?_
      refine va_get (D := D) (ci := 12) (v := .ref (α.1 0)) (C := RX12) (T := TX12) (N := 42) hx hb hts in_X12 hown hK hP 1 (sm_gX12 σ α) rfl 0 (by decide) k_1 (fun _ h9 => h9) rfl dX12_fly_29 ?_
      refine va_getN (D := D) (ci := 11) (v := .ref (α.1 20)) (C := RX11) (T := TX11) (N := 28) hx hb hts in_X11 hown hK hP 0 (sm_gX11 σ α) rfl 25 (by decide) (va_Nw.use rfl (hE.1 (.fieldLinkNest "SteadyMachineModel" 119 "SteadyMachineModel$Image" "handlerAt" "[I" "SteadyMachineModel") (by decide +kernel))) (fun _ h9 => h9) rfl dX12_fly_32 ?_
      refine lv_iload_n hx hb dX12_fly_35 rfl (lv_at hl 1 rfl) ?_
      obtain ⟨h3, hF⟩ := hF
      refine va_iald (n := (σ.2.2.1 20)) (f := (σ.2.2.2.1 20)) hx hb hK hP 20 18 (sm_aM20 σ α) (sm_yM20 α) h3 dX12_fly_36 ?_
      refine lv_bipush (v := 7) hx hb dX12_fly_37 (by decide) ?_
      refine lv_aload_n hx hb dX12_fly_39 rfl (lv_at hl 0 rfl) ?_
      refine va_get (D := D) (ci := 12) (v := .ref (α.1 0)) (C := RX12) (T := TX12) (N := 42) hx hb hts in_X12 hown hK hP 1 (sm_gX12 σ α) rfl 0 (by decide) k_1 (fun _ h9 => h9) rfl dX12_fly_40 ?_
      refine va_getN (D := D) (ci := 11) (v := .ref (α.1 19)) (C := RX11) (T := TX11) (N := 28) hx hb hts in_X11 hown hK hP 0 (sm_gX11 σ α) rfl 24 (by decide) (va_Nw.use rfl (hE.1 (.fieldLinkNest "SteadyMachineModel" 116 "SteadyMachineModel$Image" "handlerCounts" "[I" "SteadyMachineModel") (by decide +kernel))) (fun _ h9 => h9) rfl dX12_fly_43 ?_
      refine lv_iload_n hx hb dX12_fly_46 rfl (lv_at hl 1 rfl) ?_
      obtain ⟨h4, hF⟩ := hF
      refine va_iald (n := (σ.2.2.1 19)) (f := (σ.2.2.2.1 19)) hx hb hK hP 19 17 (sm_aM19 σ α) (sm_yM19 α) h4 dX12_fly_47 ?_
      refine lv_imul hx hb dX12_fly_48 ?_
      refine lv_iadd hx hb dX12_fly_49 ?_
      refine lv_icmp_ge (tgt := 162) hx hb dX12_fly_50 (by decide) (fun h5 => ?_) (fun h5 => ?_)
      · replace hF := hF.1 h5
        refine lv_aload_n hx hb dX12_fly_162 rfl (lv_at hl 0 rfl) ?_
        refine sm_vv (As := []) (rest := []) hP hK hD hE hS hA ⟨hx, hb, hml, hown, hts⟩ hl.1 (c_X12_leave l D H.size t0 σ α _ hF) (cwV 0 hts wg_X12_fly_X12_leave_335 rfl rfl rfl (by decide +kernel) ⟨Nat.le_of_ble_eq_true rfl, Nat.le_of_ble_eq_true rfl⟩) (va_recv hK hP (ci := 12) (q0 := 1) rfl (sm_gX12 σ α)) rfl rfl (Nat.le_of_ble_eq_true rfl) dX12_fly_163 ⟨Nat.zero_le _, Nat.zero_le _⟩ (fun σ6 H locs hF hP hS => ?_)
        refine lv_aload_n hx hb dX12_fly_166 rfl (lv_at hl 0 rfl) ?_
        refine lv_aload_n hx hb dX12_fly_167 rfl (lv_at hl 0 rfl) ?_
        refine va_get (D := D) (ci := 12) (v := .int (σ6.1 14)) (C := RX12) (T := TX12) (N := 42) hx hb hts in_X12 hown hK hP 1 (sm_gX12 σ6 α) rfl 18 (by decide) k_2 (fun _ h9 => h9) rfl dX12_fly_168 ?_
        refine lv_if_ne (tgt := 178) hx hb dX12_fly_171 (by decide) (fun h7 => ?_) (fun h7 => ?_)
        · replace hF := hF.1 h7
          refine lv_aload_n hx hb dX12_fly_178 rfl (lv_at hl 0 rfl) ?_
          refine va_get (D := D) (ci := 12) (v := .int (σ6.1 17)) (C := RX12) (T := TX12) (N := 42) hx hb hts in_X12 hown hK hP 1 (sm_gX12 σ6 α) rfl 26 (by decide) k_0 (fun _ h9 => h9) rfl dX12_fly_179 ?_
          exact B182 σ6 (σ6.1 17) hF H locs ls hP hS (lv_sub hl [] rfl)
        · replace hF := hF.2 h7
          refine lv_iconst (v := 3) hx hb dX12_fly_174 (by decide) ?_
          refine lv_goto (tgt := 182) hx hb dX12_fly_175 (by decide) ?_
          exact B182 σ6 3 hF H locs ls hP hS (lv_sub hl [] rfl)
      · replace hF := hF.2 h5
        refine lv_aload_n hx hb dX12_fly_53 rfl (lv_at hl 0 rfl) ?_
        refine va_get (D := D) (ci := 12) (v := .ref (α.1 0)) (C := RX12) (T := TX12) (N := 42) hx hb hts in_X12 hown hK hP 1 (sm_gX12 σ α) rfl 0 (by decide) k_1 (fun _ h9 => h9) rfl dX12_fly_54 ?_
        refine lv_iload_n hx hb dX12_fly_57 rfl (lv_at hl 3 rfl) ?_
        refine sm_nvi (As := [.int x3]) (rest := []) hP hK hD hE hS hA ⟨hx, hb, hml, hown, hts⟩ hl.1 (c_X11_two l D H.size t0 σ α x3 _ hF) ⟨va_cnB 1 hts wg_X12_fly_X11_two_113 rfl rfl rfl (hE.1 (.methodLinkNest "SteadyMachineModel" 113 ⟨"SteadyMachineModel$Image", "two", "(I)I"⟩ "SteadyMachineModel") (by decide +kernel)) k_3 (by decide +kernel) ⟨Nat.le_of_ble_eq_true rfl, Nat.le_of_ble_eq_true rfl⟩, k_4, k_5⟩ (va_recv hK hP (ci := 11) (q0 := 0) rfl (sm_gX11 σ α)) rfl rfl (Nat.le_of_ble_eq_true rfl) dX12_fly_58 ⟨Nat.zero_le _, Nat.zero_le _⟩ (fun r9 σ8 H locs hF hP hS => ?_)
        refine lv_iload_n hx hb dX12_fly_61 rfl (lv_at hl 2 rfl) ?_
        refine lv_icmp_gt (tgt := 156) hx hb dX12_fly_62 (by decide) (fun h10 => ?_) (fun h10 => ?_)
        · replace hF := hF.1 h10
          exact B156 (mp_X12_fly_27 K n27) ih27 σ8 x1 x2 x3 hF H locs ls hP hS (lv_sub hl [0, 1, 2, 3] rfl)
        · replace hF := hF.2 h10
          refine lv_iload_n hx hb dX12_fly_65 rfl (lv_at hl 2 rfl) ?_
          refine lv_aload_n hx hb dX12_fly_66 rfl (lv_at hl 0 rfl) ?_
          refine va_get (D := D) (ci := 12) (v := .ref (α.1 0)) (C := RX12) (T := TX12) (N := 42) hx hb hts in_X12 hown hK hP 1 (sm_gX12 σ8 α) rfl 0 (by decide) k_1 (fun _ h9 => h9) rfl dX12_fly_67 ?_
          refine lv_iload_n hx hb dX12_fly_70 rfl (lv_at hl 3 rfl) ?_
          refine lv_iconst (v := 2) hx hb dX12_fly_71 (by decide) ?_
          refine lv_iadd hx hb dX12_fly_72 ?_
          refine sm_nvi (As := [.int (x3 + 2)]) (rest := [.int x2]) hP hK hD hE hS hA ⟨hx, hb, hml, hown, hts⟩ hl.1 (c_X11_two l D H.size t0 σ8 α (x3 + 2) _ hF) ⟨va_cnB 1 hts wg_X12_fly_X11_two_113 rfl rfl rfl (hE.1 (.methodLinkNest "SteadyMachineModel" 113 ⟨"SteadyMachineModel$Image", "two", "(I)I"⟩ "SteadyMachineModel") (by decide +kernel)) k_3 (by decide +kernel) ⟨Nat.le_of_ble_eq_true rfl, Nat.le_of_ble_eq_true rfl⟩, k_4, k_5⟩ (va_recv hK hP (ci := 11) (q0 := 0) rfl (sm_gX11 σ8 α)) rfl rfl (Nat.le_of_ble_eq_true rfl) dX12_fly_73 ⟨Nat.zero_le _, Nat.zero_le _⟩ (fun r12 σ11 H locs hF hP hS => ?_)
          refine lv_icmp_ge (tgt := 156) hx hb dX12_fly_76 (by decide) (fun h13 => ?_) (fun h13 => ?_)
          · replace hF := hF.1 h13
            exact B156 (mp_X12_fly_27 K n27) ih27 σ11 x1 x2 x3 hF H locs ls hP hS (lv_sub hl [0, 1, 2, 3] rfl)
          · replace hF := hF.2 h13
            refine lv_aload_n hx hb dX12_fly_79 rfl (lv_at hl 0 rfl) ?_
            refine va_get (D := D) (ci := 12) (v := .ref (α.1 0)) (C := RX12) (T := TX12) (N := 42) hx hb hts in_X12 hown hK hP 1 (sm_gX12 σ11 α) rfl 0 (by decide) k_1 (fun _ h9 => h9) rfl dX12_fly_80 ?_
            refine lv_aload_n hx hb dX12_fly_83 rfl (lv_at hl 0 rfl) ?_
            refine va_get (D := D) (ci := 12) (v := .ref (α.1 26)) (C := RX12) (T := TX12) (N := 42) hx hb hts in_X12 hown hK hP 1 (sm_gX12 σ11 α) rfl 9 (by decide) k_6 (fun _ h9 => h9) rfl dX12_fly_84 ?_
            refine lv_aload_n hx hb dX12_fly_87 rfl (lv_at hl 0 rfl) ?_
            refine va_get (D := D) (ci := 12) (v := .int (σ11.1 16)) (C := RX12) (T := TX12) (N := 42) hx hb hts in_X12 hown hK hP 1 (sm_gX12 σ11 α) rfl 25 (by decide) k_7 (fun _ h9 => h9) rfl dX12_fly_88 ?_
            obtain ⟨h14, hF⟩ := hF
            refine va_iald (n := (σ11.2.2.1 26)) (f := (σ11.2.2.2.1 26)) hx hb hK hP 26 24 (sm_aM26 σ11 α) (sm_yM26 α) h14 dX12_fly_91 ?_
            refine lv_aload_n hx hb dX12_fly_92 rfl (lv_at hl 0 rfl) ?_
            refine va_get (D := D) (ci := 12) (v := .ref (α.1 0)) (C := RX12) (T := TX12) (N := 42) hx hb hts in_X12 hown hK hP 1 (sm_gX12 σ11 α) rfl 0 (by decide) k_1 (fun _ h9 => h9) rfl dX12_fly_93 ?_
            refine va_getN (D := D) (ci := 11) (v := .ref (α.1 3)) (C := RX11) (T := TX11) (N := 28) hx hb hts in_X11 hown hK hP 0 (sm_gX11 σ11 α) rfl 2 (by decide) (va_Nw.use rfl (hE.1 (.fieldLinkNest "SteadyMachineModel" 111 "SteadyMachineModel$Image" "image" "[I" "SteadyMachineModel") (by decide +kernel))) (fun _ h9 => h9) rfl dX12_fly_96 ?_
            refine lv_iload_n hx hb dX12_fly_99 rfl (lv_at hl 3 rfl) ?_
            refine lv_iconst (v := 4) hx hb dX12_fly_100 (by decide) ?_
            refine lv_iadd hx hb dX12_fly_101 ?_
            obtain ⟨h15, hF⟩ := hF
            refine va_iald (n := (σ11.2.2.1 3)) (f := (σ11.2.2.2.1 3)) hx hb hK hP 3 1 (sm_aM3 σ11 α) (sm_yM3 α) h15 dX12_fly_102 ?_
            refine sm_vi (As := [.int ((σ11.2.2.2.1 26) (σ11.1 16).toNatClampNeg), .int ((σ11.2.2.2.1 3) (x3 + 4).toNatClampNeg)]) (rest := []) hP hK hD hE hS hA ⟨hx, hb, hml, hown, hts⟩ hl.1 (c_X11_isA l D H.size t0 σ11 α ((σ11.2.2.2.1 26) (σ11.1 16).toNatClampNeg) ((σ11.2.2.2.1 3) (x3 + 4).toNatClampNeg) _ hF) (cwV 2 hts wg_X12_fly_X11_isA_14 rfl rfl rfl (by decide +kernel) ⟨Nat.le_of_ble_eq_true rfl, Nat.le_of_ble_eq_true rfl⟩) (va_recv hK hP (ci := 11) (q0 := 0) rfl (sm_gX11 σ11 α)) rfl rfl (Nat.le_of_ble_eq_true rfl) dX12_fly_103 ⟨Nat.zero_le _, Nat.zero_le _⟩ (fun r17 σ16 H locs hF hP hS => ?_)
            refine lv_if_eq (tgt := 156) hx hb dX12_fly_106 (by decide) (fun h18 => ?_) (fun h18 => ?_)
            · replace hF := hF.1 h18
              exact B156 (mp_X12_fly_27 K n27) ih27 σ16 x1 x2 x3 hF H locs ls hP hS (lv_sub hl [0, 1, 2, 3] rfl)
            · replace hF := hF.2 h18
              refine lv_aload_n hx hb dX12_fly_109 rfl (lv_at hl 0 rfl) ?_
              refine va_get (D := D) (ci := 12) (v := .ref (α.1 35)) (C := RX12) (T := TX12) (N := 42) hx hb hts in_X12 hown hK hP 1 (sm_gX12 σ16 α) rfl 21 (by decide) k_8 (fun _ h9 => h9) rfl dX12_fly_110 ?_
              refine lv_aload_n hx hb dX12_fly_113 rfl (lv_at hl 0 rfl) ?_
              refine va_get (D := D) (ci := 12) (v := .int (σ16.1 14)) (C := RX12) (T := TX12) (N := 42) hx hb hts in_X12 hown hK hP 1 (sm_gX12 σ16 α) rfl 18 (by decide) k_2 (fun _ h9 => h9) rfl dX12_fly_114 ?_
              refine lv_iconst (v := 1) hx hb dX12_fly_117 (by decide) ?_
              refine lv_isub hx hb dX12_fly_118 ?_
              refine lv_iconst (v := 0) hx hb dX12_fly_119 (by decide) ?_
              obtain ⟨h19, hF⟩ := hF
              refine va_iast (n := (σ16.2.2.1 35)) (f := (σ16.2.2.2.1 35)) (x := 0) hx hb hK hP (hD.to (sm_wM_m _ _)) hS 35 33 (sm_aM35 σ16 α) (sm_yM35 α) h19 dX12_fly_120 (fun H locs hP _ hS => ?_)
              rw [sm_rM35] at hP
              obtain ⟨σ20, eσ20⟩ : ∃ x : sm_S, x = sm_r σ16 35 (upd (σ16.2.2.2.1 35) ((σ16.1 14) - 1).toNatClampNeg 0) := ⟨_, rfl⟩
              replace hF := hF σ20 eσ20
              rw [← eσ20] at hP
              refine lv_aload_n hx hb dX12_fly_121 rfl (lv_at hl 0 rfl) ?_
              refine lv_aload_n hx hb dX12_fly_122 rfl (lv_at hl 0 rfl) ?_
              refine va_get (D := D) (ci := 12) (v := .int (σ20.1 16)) (C := RX12) (T := TX12) (N := 42) hx hb hts in_X12 hown hK hP 1 (sm_gX12 σ20 α) rfl 25 (by decide) k_7 (fun _ h9 => h9) rfl dX12_fly_123 ?_
              refine sm_vv (As := [.int (σ20.1 16)]) (rest := []) hP hK hD hE hS hA ⟨hx, hb, hml, hown, hts⟩ hl.1 (c_X12_putThing l D H.size t0 σ20 α (σ20.1 16) _ hF) (cwV 1 hts wg_X12_fly_X12_putThing_332 rfl rfl rfl (by decide +kernel) ⟨Nat.le_of_ble_eq_true rfl, Nat.le_of_ble_eq_true rfl⟩) (va_recv hK hP (ci := 12) (q0 := 1) rfl (sm_gX12 σ20 α)) rfl rfl (Nat.le_of_ble_eq_true rfl) dX12_fly_126 ⟨Nat.zero_le _, Nat.zero_le _⟩ (fun σ21 H locs hF hP hS => ?_)
              refine lv_aload_n hx hb dX12_fly_129 rfl (lv_at hl 0 rfl) ?_
              refine va_get (D := D) (ci := 12) (v := .ref (α.1 34)) (C := RX12) (T := TX12) (N := 42) hx hb hts in_X12 hown hK hP 1 (sm_gX12 σ21 α) rfl 20 (by decide) k_9 (fun _ h9 => h9) rfl dX12_fly_130 ?_
              refine lv_aload_n hx hb dX12_fly_133 rfl (lv_at hl 0 rfl) ?_
              refine va_get (D := D) (ci := 12) (v := .int (σ21.1 14)) (C := RX12) (T := TX12) (N := 42) hx hb hts in_X12 hown hK hP 1 (sm_gX12 σ21 α) rfl 18 (by decide) k_2 (fun _ h9 => h9) rfl dX12_fly_134 ?_
              refine lv_iconst (v := 1) hx hb dX12_fly_137 (by decide) ?_
              refine lv_isub hx hb dX12_fly_138 ?_
              refine lv_aload_n hx hb dX12_fly_139 rfl (lv_at hl 0 rfl) ?_
              refine va_get (D := D) (ci := 12) (v := .ref (α.1 0)) (C := RX12) (T := TX12) (N := 42) hx hb hts in_X12 hown hK hP 1 (sm_gX12 σ21 α) rfl 0 (by decide) k_1 (fun _ h9 => h9) rfl dX12_fly_140 ?_
              refine lv_iload_n hx hb dX12_fly_143 rfl (lv_at hl 3 rfl) ?_
              refine lv_iconst (v := 5) hx hb dX12_fly_144 (by decide) ?_
              refine lv_iadd hx hb dX12_fly_145 ?_
              refine sm_nvi (As := [.int (x3 + 5)]) (rest := [.int ((σ21.1 14) - 1), .ref (α.1 34)]) hP hK hD hE hS hA ⟨hx, hb, hml, hown, hts⟩ hl.1 (c_X11_two l D H.size t0 σ21 α (x3 + 5) _ hF) ⟨va_cnB 1 hts wg_X12_fly_X11_two_113 rfl rfl rfl (hE.1 (.methodLinkNest "SteadyMachineModel" 113 ⟨"SteadyMachineModel$Image", "two", "(I)I"⟩ "SteadyMachineModel") (by decide +kernel)) k_3 (by decide +kernel) ⟨Nat.le_of_ble_eq_true rfl, Nat.le_of_ble_eq_true rfl⟩, k_4, k_5⟩ (va_recv hK hP (ci := 11) (q0 := 0) rfl (sm_gX11 σ21 α)) rfl rfl (Nat.le_of_ble_eq_true rfl) dX12_fly_146 ⟨Nat.zero_le _, Nat.zero_le _⟩ (fun r23 σ22 H locs hF hP hS => ?_)
              obtain ⟨h24, hF⟩ := hF
              refine va_iast (n := (σ22.2.2.1 34)) (f := (σ22.2.2.2.1 34)) (x := r23) hx hb hK hP (hD.to (sm_wM_m _ _)) hS 34 32 (sm_aM34 σ22 α) (sm_yM34 α) h24 dX12_fly_149 (fun H locs hP _ hS => ?_)
              rw [sm_rM34] at hP
              obtain ⟨σ25, eσ25⟩ : ∃ x : sm_S, x = sm_r σ22 34 (upd (σ22.2.2.2.1 34) ((σ21.1 14) - 1).toNatClampNeg r23) := ⟨_, rfl⟩
              replace hF := hF σ25 eσ25
              rw [← eσ25] at hP
              refine lv_aload_n hx hb dX12_fly_150 rfl (lv_at hl 0 rfl) ?_
              refine lv_iconst (v := 0) hx hb dX12_fly_151 (by decide) ?_
              refine va_put (D := D) (ci := 12) (v := .int 0) (ty := .boolean) (C := RX12) (T := TX12) (N := 42) hx hb hts in_X12 tyX12 tyX12_ok nmX12 hown hK hP (hD.to (sm_wM_m _ _)) hS 1 (sm_gX12 σ25 α) rfl 24 (by decide) k_10 (fun _ h9 => h9) rfl (by decide +kernel) sm_z0.1 sm_z0.2 (Nat.le_of_ble_eq_true rfl) dX12_fly_152 (fun H locs hP _ hS => ?_)
              rw [sm_iM15] at hP
              obtain ⟨σ26, eσ26⟩ : ∃ x : sm_S, x = sm_i σ25 15 0 := ⟨_, rfl⟩
              replace hF := hF σ26 eσ26
              rw [← eσ26] at hP
              exact W.vret hx hb hr (fun t ht hW => ⟨⟨σ26, rfl, hF, (by unfold sm_B; rw [ht]; exact hP)⟩, hS.F ht⟩) hS.2.2 dX12_fly_155
  unfold mp_X12_fly at hF
  revert hP hS
  generalize hLo : ([] : List Loc) = locs
  suffices h9 : ∀ (H : Heap) (locs : List Loc), va_P D vwCl (sm_wM σ α) H → va_S A s.heap H locs → W p l e (headSpec wp_X12_fly { frames := 3, cells := 0, slots := 0, locals := 62 }).room s m ([.ref (α.1 1)] : List Value).toArray below meth c H locs 0 0 (MQ below (va_Qv K (sm_B sm_wM D α) A) ([.ref (α.1 1)] : List Value).toArray s 0 0 A) (F0 m 0 ls []) from fun hP hS => h9 s.heap locs hP hS
  intro H locs hP hS
  refine lv_aload_n hx hb dX12_fly_0 rfl (lv_at hl 0 rfl) ?_
  refine sm_vi (As := []) (rest := []) hP hK hD hE hS hA ⟨hx, hb, hml, hown, hts⟩ hl.1 (c_X12_method l D H.size t0 σ α _ hF) (cwV 0 hts wg_X12_fly_X12_method_317 rfl rfl rfl (by decide +kernel) ⟨Nat.le_of_ble_eq_true rfl, Nat.le_of_ble_eq_true rfl⟩) (va_recv hK hP (ci := 12) (q0 := 1) rfl (sm_gX12 σ α)) rfl rfl (Nat.le_of_ble_eq_true rfl) dX12_fly_1 ⟨Nat.zero_le _, Nat.zero_le _⟩ (fun r28 σ27 H locs hF hP hS => ?_)
  refine lv_istore_n (lv' := [(1, .int r28), (0, .ref (α.1 1))]) hx hb dX12_fly_4 rfl hl (by decide) rfl (fun ls hl => ?_)
  refine lv_aload_n hx hb dX12_fly_5 rfl (lv_at hl 1 rfl) ?_
  refine va_get (D := D) (ci := 12) (v := .ref (α.1 34)) (C := RX12) (T := TX12) (N := 42) hx hb hts in_X12 hown hK hP 1 (sm_gX12 σ27 α) rfl 20 (by decide) k_9 (fun _ h9 => h9) rfl dX12_fly_6 ?_
  refine lv_aload_n hx hb dX12_fly_9 rfl (lv_at hl 1 rfl) ?_
  refine va_get (D := D) (ci := 12) (v := .int (σ27.1 14)) (C := RX12) (T := TX12) (N := 42) hx hb hts in_X12 hown hK hP 1 (sm_gX12 σ27 α) rfl 18 (by decide) k_2 (fun _ h9 => h9) rfl dX12_fly_10 ?_
  refine lv_iconst (v := 1) hx hb dX12_fly_13 (by decide) ?_
  refine lv_isub hx hb dX12_fly_14 ?_
  obtain ⟨h29, hF⟩ := hF
  refine va_iald (n := (σ27.2.2.1 34)) (f := (σ27.2.2.2.1 34)) hx hb hK hP 34 32 (sm_aM34 σ27 α) (sm_yM34 α) h29 dX12_fly_15 ?_
  refine lv_topi (fun v30 ev30 => ?_)
  replace hF := hF v30 ev30
  refine lv_istore_n (lv' := [(2, .int v30), (1, .int r28), (0, .ref (α.1 1))]) hx hb dX12_fly_16 rfl hl (by decide) rfl (fun ls hl => ?_)
  refine lv_aload_n hx hb dX12_fly_17 rfl (lv_at hl 2 rfl) ?_
  refine va_get (D := D) (ci := 12) (v := .ref (α.1 0)) (C := RX12) (T := TX12) (N := 42) hx hb hts in_X12 hown hK hP 1 (sm_gX12 σ27 α) rfl 0 (by decide) k_1 (fun _ h9 => h9) rfl dX12_fly_18 ?_
  refine va_getN (D := D) (ci := 11) (v := .ref (α.1 20)) (C := RX11) (T := TX11) (N := 28) hx hb hts in_X11 hown hK hP 0 (sm_gX11 σ27 α) rfl 25 (by decide) (va_Nw.use rfl (hE.1 (.fieldLinkNest "SteadyMachineModel" 119 "SteadyMachineModel$Image" "handlerAt" "[I" "SteadyMachineModel") (by decide +kernel))) (fun _ h9 => h9) rfl dX12_fly_21 ?_
  refine lv_iload_n hx hb dX12_fly_24 rfl (lv_at hl 1 rfl) ?_
  obtain ⟨h31, hF⟩ := hF
  refine va_iald (n := (σ27.2.2.1 20)) (f := (σ27.2.2.2.1 20)) hx hb hK hP 20 18 (sm_aM20 σ27 α) (sm_yM20 α) h31 dX12_fly_25 ?_
  refine lv_topi (fun v32 ev32 => ?_)
  replace hF := hF v32 ev32
  refine lv_istore_n (lv' := [(3, .int v32), (2, .int v30), (1, .int r28), (0, .ref (α.1 1))]) hx hb dX12_fly_26 rfl hl (by decide) rfl (fun ls hl => ?_)
  obtain ⟨n27, hF⟩ := hF
  exact B27 n27 σ27 r28 v30 v32 hF H locs ls hP hS (lv_sub hl [3, 2, 1, 0] rfl)
theorem dX12_onward_0 : decode cX12_onward 0 = .ok (.aload_n 0, 1) := by decide +kernel
theorem dX12_onward_1 : decode cX12_onward 1 = .ok (.getfield 208, 3) := by decide +kernel
theorem dX12_onward_4 : decode cX12_onward 4 = .ok (.aload_n 0, 1) := by decide +kernel
theorem dX12_onward_5 : decode cX12_onward 5 = .ok (.getfield 256, 3) := by decide +kernel
theorem dX12_onward_8 : decode cX12_onward 8 = .ok (.iconst 1, 1) := by decide +kernel
theorem dX12_onward_9 : decode cX12_onward 9 = .ok (.isub, 1) := by decide +kernel
theorem dX12_onward_10 : decode cX12_onward 10 = .ok (.dup2, 1) := by decide +kernel
theorem dX12_onward_11 : decode cX12_onward 11 = .ok (.iaload, 1) := by decide +kernel
theorem dX12_onward_12 : decode cX12_onward 12 = .ok (.aload_n 0, 1) := by decide +kernel
theorem dX12_onward_13 : decode cX12_onward 13 = .ok (.getfield 10, 3) := by decide +kernel
theorem dX12_onward_16 : decode cX12_onward 16 = .ok (.getfield 111, 3) := by decide +kernel
theorem dX12_onward_19 : decode cX12_onward 19 = .ok (.iload_n 1, 1) := by decide +kernel
theorem dX12_onward_20 : decode cX12_onward 20 = .ok (.iaload, 1) := by decide +kernel
theorem dX12_onward_21 : decode cX12_onward 21 = .ok (.invokestatic 133, 3) := by decide +kernel
theorem dX12_onward_24 : decode cX12_onward 24 = .ok (.iadd, 1) := by decide +kernel
theorem dX12_onward_25 : decode cX12_onward 25 = .ok (.iastore, 1) := by decide +kernel
theorem dX12_onward_26 : decode cX12_onward 26 = .ok (.return_, 1) := by decide +kernel
def wp_X12_onward : List Cond := .code yX12_onward cX12_onward 2 none :: ((([.fieldLink RX12 208 "SteadyMachineModel" "placeOf" "[I", .fieldLink RX12 256 "SteadyMachineModel" "frames" "I", .fieldLink RX12 10 "SteadyMachineModel" "image" "LSteadyMachineModel$Image;", .initialized RX11, .static yX11_wide] ++ wp_X11_wide) ++ wsX110) ++ wsX120)
theorem wq_X12_onward : wp_X12_onward.all goodWord = true := wa_c rfl (wa_a (wa_a (wa_a (by decide +kernel) wq_X11_wide) uq_X11) uq_X12)
theorem wt_X12_onward : GoodIn lw_tbl wp_X12_onward := wm_c (List.mem_of_getElem? (i := 1704) (by decide +kernel)) rfl (wm_a (wm_a (wm_a (goodIn_r _ [1510, 1508, 1490, 148, 1253] (by decide +kernel) (by decide +kernel)) wt_X11_wide) ut_X11) ut_X12)
theorem wg_X12_onward_X11_wide_133 : GoodIn wp_X12_onward wp_X11_wide := goodIn_sub (fun w h => List.mem_cons_of_mem _ (List.mem_append_left _ (List.mem_append_left _ (List.mem_append_right _ h)))) wq_X11_wide
theorem wi_X12_onward_X11 : ∀ w ∈ wsX110, w ∈ wp_X12_onward := fun w h => List.mem_cons_of_mem _ (List.mem_append_left _ (List.mem_append_right _ h))
theorem wi_X12_onward_X12 : ∀ w ∈ wsX120, w ∈ wp_X12_onward := fun w h => List.mem_cons_of_mem _ (List.mem_append_right _ h)
set_option maxHeartbeats 4000000 in
set_option maxRecDepth 100000 in
theorem c_X12_onward (l : Launch) (D : va_G) (sz t0 : Nat) (σ : sm_S) (α : sm_A) (p1 : Int32) (K : sm_S → Prop) (hF : mp_X12_onward σ p1 K) : Met l yX12_onward wp_X12_onward { frames := 1, cells := 0, slots := 0, locals := 20 } (sm_P sm_wM sm_tM 40 D sz t0 σ α [.ref (α.1 1), .int p1]) (va_Qv K (sm_B sm_wM D α) (sm_a α 40 sz)) 0 0 (sm_a α 40 sz) := by
  refine Met.ofW (cc := cX12_onward) (maxL := 2) (ret := none) (by decide) rfl ?_
  intro p e s m args below meth c s₁ B hml hv
  obtain ⟨rfl, hsz, hP, hK, hD0, hE⟩ := hv
  have hx := B.exec
  have hb := B.bytes
  have hr := B.returns
  have hts := atoms_spec (ws := wp_X12_onward) B.pre
  have hown : s.vm.findClass RX12 = some m.cls := findClass_of_methodNamed B.named
  have hlocks := B.notSynchronized
  subst hsz
  have hD : sm_D (sm_a α 40 s.heap.size) α 40 := hD0.own
  have hA : ∀ q : Nat, s.heap.size ≤ q → sm_a α 40 s.heap.size q := fun q h => Or.inr h
  generalize hAe : sm_a α 40 s.heap.size = A at hD hA hE ⊢
  have hS : va_S A s.heap s.heap [] := va_S.rf
  have in_X11 : ∀ w ∈ wsX110, w ∈ wp_X12_onward := wi_X12_onward_X11
  have in_X12 : ∀ w ∈ wsX120, w ∈ wp_X12_onward := wi_X12_onward_X12
  have k_0 := hts (.fieldLink RX12 208 "SteadyMachineModel" "placeOf" "[I") (by decide +kernel)
  have k_1 := hts (.fieldLink RX12 256 "SteadyMachineModel" "frames" "I") (by decide +kernel)
  have k_2 := hts (.fieldLink RX12 10 "SteadyMachineModel" "image" "LSteadyMachineModel$Image;") (by decide +kernel)
  have k_3 := hts (.initialized RX11) (by decide +kernel)
  have k_4 := hts (.static yX11_wide) (by decide +kernel)
  have hl := lv_entry ([.ref (α.1 1), .int p1]) (n := 2) (Nat.le_of_ble_eq_true rfl)
  rw [lg_entry_eq]
  generalize (lg_sl ([.ref (α.1 1), .int p1]) ++ List.replicate (2 - (lg_sl ([.ref (α.1 1), .int p1])).length) Slot.unset).toArray = ls at hl ⊢
  have hl : lv_has ls 2 [(0, .ref (α.1 1)), (1, .int p1)] := hl
  unfold mp_X12_onward at hF
  revert hP hS
  generalize hLo : ([] : List Loc) = locs
  suffices h9 : ∀ (H : Heap) (locs : List Loc), va_P D vwCl (sm_wM σ α) H → va_S A s.heap H locs → W p l e (headSpec wp_X12_onward { frames := 1, cells := 0, slots := 0, locals := 20 }).room s m ([.ref (α.1 1), .int p1] : List Value).toArray below meth c H locs 0 0 (MQ below (va_Qv K (sm_B sm_wM D α) A) ([.ref (α.1 1), .int p1] : List Value).toArray s 0 0 A) (F0 m 0 ls []) from fun hP hS => h9 s.heap locs hP hS
  intro H locs hP hS
  refine lv_aload_n hx hb dX12_onward_0 rfl (lv_at hl 0 rfl) ?_
  refine va_get (D := D) (ci := 12) (v := .ref (α.1 34)) (C := RX12) (T := TX12) (N := 42) hx hb hts in_X12 hown hK hP 1 (sm_gX12 σ α) rfl 20 (by decide) k_0 (fun _ h9 => h9) rfl dX12_onward_1 ?_
  refine lv_aload_n hx hb dX12_onward_4 rfl (lv_at hl 0 rfl) ?_
  refine va_get (D := D) (ci := 12) (v := .int (σ.1 14)) (C := RX12) (T := TX12) (N := 42) hx hb hts in_X12 hown hK hP 1 (sm_gX12 σ α) rfl 18 (by decide) k_1 (fun _ h9 => h9) rfl dX12_onward_5 ?_
  refine lv_iconst (v := 1) hx hb dX12_onward_8 (by decide) ?_
  refine lv_isub hx hb dX12_onward_9 ?_
  refine lv_dup2_11 hx hb dX12_onward_10 rfl rfl ?_
  obtain ⟨h1, hF⟩ := hF
  refine va_iald (n := (σ.2.2.1 34)) (f := (σ.2.2.2.1 34)) hx hb hK hP 34 32 (sm_aM34 σ α) (sm_yM34 α) h1 dX12_onward_11 ?_
  refine lv_aload_n hx hb dX12_onward_12 rfl (lv_at hl 0 rfl) ?_
  refine va_get (D := D) (ci := 12) (v := .ref (α.1 0)) (C := RX12) (T := TX12) (N := 42) hx hb hts in_X12 hown hK hP 1 (sm_gX12 σ α) rfl 0 (by decide) k_2 (fun _ h9 => h9) rfl dX12_onward_13 ?_
  refine va_getN (D := D) (ci := 11) (v := .ref (α.1 3)) (C := RX11) (T := TX11) (N := 28) hx hb hts in_X11 hown hK hP 0 (sm_gX11 σ α) rfl 2 (by decide) (va_Nw.use rfl (hE.1 (.fieldLinkNest "SteadyMachineModel" 111 "SteadyMachineModel$Image" "image" "[I" "SteadyMachineModel") (by decide +kernel))) (fun _ h9 => h9) rfl dX12_onward_16 ?_
  refine lv_iload_n hx hb dX12_onward_19 rfl (lv_at hl 1 rfl) ?_
  obtain ⟨h2, hF⟩ := hF
  refine va_iald (n := (σ.2.2.1 3)) (f := (σ.2.2.2.1 3)) hx hb hK hP 3 1 (sm_aM3 σ α) (sm_yM3 α) h2 dX12_onward_20 ?_
  refine sm_nsi (As := [.int ((σ.2.2.2.1 3) p1.toNatClampNeg)]) (rest := [.int ((σ.2.2.2.1 34) ((σ.1 14) - 1).toNatClampNeg), .int ((σ.1 14) - 1), .ref (α.1 34)]) hP hK hD hE hS hA ⟨hx, hb, hml, hown, hts⟩ hl.1 (c_X11_wide l D H.size t0 σ α ((σ.2.2.2.1 3) p1.toNatClampNeg) _ hF) ⟨va_cnB 1 hts wg_X12_onward_X11_wide_133 rfl rfl rfl (hE.1 (.methodLinkNest "SteadyMachineModel" 133 ⟨"SteadyMachineModel$Image", "wide", "(I)I"⟩ "SteadyMachineModel") (by decide +kernel)) k_3 (by decide +kernel) ⟨Nat.le_of_ble_eq_true rfl, Nat.le_of_ble_eq_true rfl⟩, k_4, trivial⟩ rfl rfl (Nat.le_of_ble_eq_true rfl) dX12_onward_21 ⟨Nat.zero_le _, Nat.zero_le _⟩ (fun r4 σ3 H locs hF hP hS => ?_)
  refine lv_iadd hx hb dX12_onward_24 ?_
  obtain ⟨h5, hF⟩ := hF
  refine va_iast (n := (σ3.2.2.1 34)) (f := (σ3.2.2.2.1 34)) (x := (((σ.2.2.2.1 34) ((σ.1 14) - 1).toNatClampNeg) + r4)) hx hb hK hP (hD.to (sm_wM_m _ _)) hS 34 32 (sm_aM34 σ3 α) (sm_yM34 α) h5 dX12_onward_25 (fun H locs hP _ hS => ?_)
  rw [sm_rM34] at hP
  obtain ⟨σ6, eσ6⟩ : ∃ x : sm_S, x = sm_r σ3 34 (upd (σ3.2.2.2.1 34) ((σ.1 14) - 1).toNatClampNeg (((σ.2.2.2.1 34) ((σ.1 14) - 1).toNatClampNeg) + r4)) := ⟨_, rfl⟩
  replace hF := hF σ6 eσ6
  rw [← eσ6] at hP
  exact W.vret hx hb hr (fun t ht hW => ⟨⟨σ6, rfl, hF, (by unfold sm_B; rw [ht]; exact hP)⟩, hS.F ht⟩) hS.2.2 dX12_onward_26
theorem dX12_call_0 : decode cX12_call 0 = .ok (.aload_n 0, 1) := by decide +kernel
theorem dX12_call_1 : decode cX12_call 1 = .ok (.bipush 16, 2) := by decide +kernel
theorem dX12_call_3 : decode cX12_call 3 = .ok (.invokevirtual 274, 3) := by decide +kernel
theorem dX12_call_6 : decode cX12_call 6 = .ok (.ifCond .ne 8, 3) := by decide +kernel
theorem dX12_call_9 : decode cX12_call 9 = .ok (.aload_n 0, 1) := by decide +kernel
theorem dX12_call_10 : decode cX12_call 10 = .ok (.invokevirtual 326, 3) := by decide +kernel
theorem dX12_call_13 : decode cX12_call 13 = .ok (.ireturn, 1) := by decide +kernel
theorem dX12_call_14 : decode cX12_call 14 = .ok (.aload_n 0, 1) := by decide +kernel
theorem dX12_call_15 : decode cX12_call 15 = .ok (.getfield 10, 3) := by decide +kernel
theorem dX12_call_18 : decode cX12_call 18 = .ok (.getfield 68, 3) := by decide +kernel
theorem dX12_call_21 : decode cX12_call 21 = .ok (.iload_n 1, 1) := by decide +kernel
theorem dX12_call_22 : decode cX12_call 22 = .ok (.iaload, 1) := by decide +kernel
theorem dX12_call_23 : decode cX12_call 23 = .ok (.istore_n 2, 1) := by decide +kernel
theorem dX12_call_24 : decode cX12_call 24 = .ok (.aload_n 0, 1) := by decide +kernel
theorem dX12_call_25 : decode cX12_call 25 = .ok (.iload_n 2, 1) := by decide +kernel
theorem dX12_call_26 : decode cX12_call 26 = .ok (.iconst 1, 1) := by decide +kernel
theorem dX12_call_27 : decode cX12_call 27 = .ok (.isub, 1) := by decide +kernel
theorem dX12_call_28 : decode cX12_call 28 = .ok (.invokevirtual 320, 3) := by decide +kernel
theorem dX12_call_31 : decode cX12_call 31 = .ok (.istore_n 3, 1) := by decide +kernel
theorem dX12_call_32 : decode cX12_call 32 = .ok (.aload_n 0, 1) := by decide +kernel
theorem dX12_call_33 : decode cX12_call 33 = .ok (.iload_n 2, 1) := by decide +kernel
theorem dX12_call_34 : decode cX12_call 34 = .ok (.invokevirtual 359, 3) := by decide +kernel
theorem dX12_call_37 : decode cX12_call 37 = .ok (.aload_n 0, 1) := by decide +kernel
theorem dX12_call_38 : decode cX12_call 38 = .ok (.iload_n 1, 1) := by decide +kernel
theorem dX12_call_39 : decode cX12_call 39 = .ok (.invokevirtual 280, 3) := by decide +kernel
theorem dX12_call_42 : decode cX12_call 42 = .ok (.iconst 0, 1) := by decide +kernel
theorem dX12_call_43 : decode cX12_call 43 = .ok (.istore 4, 2) := by decide +kernel
theorem dX12_call_45 : decode cX12_call 45 = .ok (.iload 4, 2) := by decide +kernel
theorem dX12_call_47 : decode cX12_call 47 = .ok (.iload_n 2, 1) := by decide +kernel
theorem dX12_call_48 : decode cX12_call 48 = .ok (.if_icmp .ge 29, 3) := by decide +kernel
theorem dX12_call_51 : decode cX12_call 51 = .ok (.aload_n 0, 1) := by decide +kernel
theorem dX12_call_52 : decode cX12_call 52 = .ok (.iload_n 3, 1) := by decide +kernel
theorem dX12_call_53 : decode cX12_call 53 = .ok (.iload 4, 2) := by decide +kernel
theorem dX12_call_55 : decode cX12_call 55 = .ok (.iadd, 1) := by decide +kernel
theorem dX12_call_56 : decode cX12_call 56 = .ok (.bipush 12, 2) := by decide +kernel
theorem dX12_call_58 : decode cX12_call 58 = .ok (.aload_n 0, 1) := by decide +kernel
theorem dX12_call_59 : decode cX12_call 59 = .ok (.getfield 256, 3) := by decide +kernel
theorem dX12_call_62 : decode cX12_call 62 = .ok (.iconst 1, 1) := by decide +kernel
theorem dX12_call_63 : decode cX12_call 63 = .ok (.isub, 1) := by decide +kernel
theorem dX12_call_64 : decode cX12_call 64 = .ok (.imul, 1) := by decide +kernel
theorem dX12_call_65 : decode cX12_call 65 = .ok (.iload 4, 2) := by decide +kernel
theorem dX12_call_67 : decode cX12_call 67 = .ok (.iadd, 1) := by decide +kernel
theorem dX12_call_68 : decode cX12_call 68 = .ok (.invokevirtual 369, 3) := by decide +kernel
theorem dX12_call_71 : decode cX12_call 71 = .ok (.iinc 4 1, 3) := by decide +kernel
theorem dX12_call_74 : decode cX12_call 74 = .ok (.goto (-29), 3) := by decide +kernel
theorem dX12_call_77 : decode cX12_call 77 = .ok (.iconst 1, 1) := by decide +kernel
theorem dX12_call_78 : decode cX12_call 78 = .ok (.ireturn, 1) := by decide +kernel
def wp_X12_call : List Cond := .code yX12_call cX12_call 5 (some .boolean) :: (((((((([.fieldLink RX12 256 "SteadyMachineModel" "frames" "I", .fieldLink RX12 10 "SteadyMachineModel" "image" "LSteadyMachineModel$Image;"] ++ (wsV RX12 369 RX12 yX12_copy wp_X12_copy)) ++ (wsV RX12 274 RX12 yX12_make wp_X12_make)) ++ (wsV RX12 320 RX12 yX12_under wp_X12_under)) ++ (wsV RX12 359 RX12 yX12_drop wp_X12_drop)) ++ (wsV RX12 280 RX12 yX12_enter wp_X12_enter)) ++ (wsV RX12 326 RX12 yX12_noRoom wp_X12_noRoom)) ++ wsX110) ++ wsX120)
theorem wq_X12_call : wp_X12_call.all goodWord = true := wa_c rfl (wa_a (wa_a (wa_a (wa_a (wa_a (wa_a (wa_a (wa_a (by decide +kernel) (wa_V wq_X12_copy)) (wa_V wq_X12_make)) (wa_V wq_X12_under)) (wa_V wq_X12_drop)) (wa_V wq_X12_enter)) (wa_V wq_X12_noRoom)) uq_X11) uq_X12)
theorem wt_X12_call : GoodIn lw_tbl wp_X12_call := wm_c (List.mem_of_getElem? (i := 1744) (by decide +kernel)) rfl (wm_a (wm_a (wm_a (wm_a (wm_a (wm_a (wm_a (wm_a (goodIn_r _ [1508, 1490] (by decide +kernel) (by decide +kernel)) (wm_a (goodIn_r _ [1745, 1747, 129, 147] (by decide +kernel) (by decide +kernel)) wt_X12_copy)) (wm_a (goodIn_r _ [1630, 1632, 102, 147] (by decide +kernel) (by decide +kernel)) wt_X12_make)) (wm_a (goodIn_r _ [1678, 1680, 113, 147] (by decide +kernel) (by decide +kernel)) wt_X12_under)) (wm_a (goodIn_r _ [1697, 1699, 117, 147] (by decide +kernel) (by decide +kernel)) wt_X12_drop)) (wm_a (goodIn_r _ [1654, 1656, 108, 147] (by decide +kernel) (by decide +kernel)) wt_X12_enter)) (wm_a (goodIn_r _ [1709, 1711, 120, 147] (by decide +kernel) (by decide +kernel)) wt_X12_noRoom)) ut_X11) ut_X12)
theorem wg_X12_call_X12_copy_369 : GoodIn wp_X12_call (wsV RX12 369 RX12 yX12_copy wp_X12_copy) := goodIn_sub (fun w h => List.mem_cons_of_mem _ (List.mem_append_left _ (List.mem_append_left _ (List.mem_append_left _ (List.mem_append_left _ (List.mem_append_left _ (List.mem_append_left _ (List.mem_append_left _ (List.mem_append_right _ h))))))))) (wa_V wq_X12_copy)
theorem wg_X12_call_X12_make_274 : GoodIn wp_X12_call (wsV RX12 274 RX12 yX12_make wp_X12_make) := goodIn_sub (fun w h => List.mem_cons_of_mem _ (List.mem_append_left _ (List.mem_append_left _ (List.mem_append_left _ (List.mem_append_left _ (List.mem_append_left _ (List.mem_append_left _ (List.mem_append_right _ h)))))))) (wa_V wq_X12_make)
theorem wg_X12_call_X12_under_320 : GoodIn wp_X12_call (wsV RX12 320 RX12 yX12_under wp_X12_under) := goodIn_sub (fun w h => List.mem_cons_of_mem _ (List.mem_append_left _ (List.mem_append_left _ (List.mem_append_left _ (List.mem_append_left _ (List.mem_append_left _ (List.mem_append_right _ h))))))) (wa_V wq_X12_under)
theorem wg_X12_call_X12_drop_359 : GoodIn wp_X12_call (wsV RX12 359 RX12 yX12_drop wp_X12_drop) := goodIn_sub (fun w h => List.mem_cons_of_mem _ (List.mem_append_left _ (List.mem_append_left _ (List.mem_append_left _ (List.mem_append_left _ (List.mem_append_right _ h)))))) (wa_V wq_X12_drop)
theorem wg_X12_call_X12_enter_280 : GoodIn wp_X12_call (wsV RX12 280 RX12 yX12_enter wp_X12_enter) := goodIn_sub (fun w h => List.mem_cons_of_mem _ (List.mem_append_left _ (List.mem_append_left _ (List.mem_append_left _ (List.mem_append_right _ h))))) (wa_V wq_X12_enter)
theorem wg_X12_call_X12_noRoom_326 : GoodIn wp_X12_call (wsV RX12 326 RX12 yX12_noRoom wp_X12_noRoom) := goodIn_sub (fun w h => List.mem_cons_of_mem _ (List.mem_append_left _ (List.mem_append_left _ (List.mem_append_right _ h)))) (wa_V wq_X12_noRoom)
theorem wi_X12_call_X11 : ∀ w ∈ wsX110, w ∈ wp_X12_call := fun w h => List.mem_cons_of_mem _ (List.mem_append_left _ (List.mem_append_right _ h))
theorem wi_X12_call_X12 : ∀ w ∈ wsX120, w ∈ wp_X12_call := fun w h => List.mem_cons_of_mem _ (List.mem_append_right _ h)
set_option maxHeartbeats 4000000 in
set_option maxRecDepth 100000 in
theorem c_X12_call (l : Launch) (D : va_G) (sz t0 : Nat) (σ : sm_S) (α : sm_A) (p1 : Int32) (K : Int32 → sm_S → Prop) (hF : mp_X12_call σ p1 K) : Met l yX12_call wp_X12_call { frames := 3, cells := 0, slots := 0, locals := 67 } (sm_P sm_wM sm_tM 40 D sz t0 σ α [.ref (α.1 1), .int p1]) (va_Qi K (sm_B sm_wM D α) (sm_a α 40 sz)) 0 0 (sm_a α 40 sz) := by
  refine Met.ofW (cc := cX12_call) (maxL := 5) (ret := (some .boolean)) (by decide) rfl ?_
  intro p e s m args below meth c s₁ B hml hv
  obtain ⟨rfl, hsz, hP, hK, hD0, hE⟩ := hv
  have hx := B.exec
  have hb := B.bytes
  have hr := B.returns
  have hts := atoms_spec (ws := wp_X12_call) B.pre
  have hown : s.vm.findClass RX12 = some m.cls := findClass_of_methodNamed B.named
  have hlocks := B.notSynchronized
  subst hsz
  have hD : sm_D (sm_a α 40 s.heap.size) α 40 := hD0.own
  have hA : ∀ q : Nat, s.heap.size ≤ q → sm_a α 40 s.heap.size q := fun q h => Or.inr h
  generalize hAe : sm_a α 40 s.heap.size = A at hD hA hE ⊢
  have hS : va_S A s.heap s.heap [] := va_S.rf
  have in_X11 : ∀ w ∈ wsX110, w ∈ wp_X12_call := wi_X12_call_X11
  have in_X12 : ∀ w ∈ wsX120, w ∈ wp_X12_call := wi_X12_call_X12
  have k_0 := hts (.fieldLink RX12 256 "SteadyMachineModel" "frames" "I") (by decide +kernel)
  have k_1 := hts (.fieldLink RX12 10 "SteadyMachineModel" "image" "LSteadyMachineModel$Image;") (by decide +kernel)
  have hl := lv_entry ([.ref (α.1 1), .int p1]) (n := 5) (Nat.le_of_ble_eq_true rfl)
  rw [lg_entry_eq]
  generalize (lg_sl ([.ref (α.1 1), .int p1]) ++ List.replicate (5 - (lg_sl ([.ref (α.1 1), .int p1])).length) Slot.unset).toArray = ls at hl ⊢
  have hl : lv_has ls 5 [(0, .ref (α.1 1)), (1, .int p1)] := hl
  have B45 : ∀ (n : Nat) (σ : sm_S) (x2 : Int32) (x3 : Int32) (x4 : Int32), mp_X12_call_45 K n σ x2 x3 x4 → sm_J p l e (headSpec wp_X12_call { frames := 3, cells := 0, slots := 0, locals := 67 }).room s m ([.ref (α.1 1), .int p1] : List Value).toArray below meth c (MQ below (va_Qi K (sm_B sm_wM D α) A) ([.ref (α.1 1), .int p1] : List Value).toArray s 0 0 A) D A 5 (sm_wM σ α) 45 [(0, .ref (α.1 1)), (2, .int x2), (3, .int x3), (4, .int x4)] [] := by
    intro n45
    induction n45 with
    | zero =>
      intro σ x2 x3 x4 hF
      exact hF.elim
    | succ n45 ih45 =>
      intro σ x2 x3 x4 hF H locs ls hP hS hl
      unfold mp_X12_call_45 at hF
      refine lv_iload hx hb dX12_call_45 (lv_at hl 3 rfl) ?_
      refine lv_iload_n hx hb dX12_call_47 rfl (lv_at hl 1 rfl) ?_
      refine lv_icmp_ge (tgt := 77) hx hb dX12_call_48 (by decide) (fun h1 => ?_) (fun h1 => ?_)
      · replace hF := hF.1 h1
        refine lv_iconst (v := 1) hx hb dX12_call_77 (by decide) ?_
        exact W.zret (v := 1) hx hb hr sm_z1.1 (fun t ht hW => ⟨⟨1, σ, rfl, hF, (by unfold sm_B; rw [ht]; exact hP)⟩, hS.F ht⟩) hS.2.2 dX12_call_78
      · replace hF := hF.2 h1
        refine lv_aload_n hx hb dX12_call_51 rfl (lv_at hl 0 rfl) ?_
        refine lv_iload_n hx hb dX12_call_52 rfl (lv_at hl 2 rfl) ?_
        refine lv_iload hx hb dX12_call_53 (lv_at hl 3 rfl) ?_
        refine lv_iadd hx hb dX12_call_55 ?_
        refine lv_bipush (v := 12) hx hb dX12_call_56 (by decide) ?_
        refine lv_aload_n hx hb dX12_call_58 rfl (lv_at hl 0 rfl) ?_
        refine va_get (D := D) (ci := 12) (v := .int (σ.1 14)) (C := RX12) (T := TX12) (N := 42) hx hb hts in_X12 hown hK hP 1 (sm_gX12 σ α) rfl 18 (by decide) k_0 (fun _ h9 => h9) rfl dX12_call_59 ?_
        refine lv_iconst (v := 1) hx hb dX12_call_62 (by decide) ?_
        refine lv_isub hx hb dX12_call_63 ?_
        refine lv_imul hx hb dX12_call_64 ?_
        refine lv_iload hx hb dX12_call_65 (lv_at hl 3 rfl) ?_
        refine lv_iadd hx hb dX12_call_67 ?_
        refine sm_vv (As := [.int (x3 + x4), .int ((12 * ((σ.1 14) - 1)) + x4)]) (rest := []) hP hK hD hE hS hA ⟨hx, hb, hml, hown, hts⟩ hl.1 (c_X12_copy l D H.size t0 σ α (x3 + x4) ((12 * ((σ.1 14) - 1)) + x4) _ hF) (cwV 2 hts wg_X12_call_X12_copy_369 rfl rfl rfl (by decide +kernel) ⟨Nat.le_of_ble_eq_true rfl, Nat.le_of_ble_eq_true rfl⟩) (va_recv hK hP (ci := 12) (q0 := 1) rfl (sm_gX12 σ α)) rfl rfl (Nat.le_of_ble_eq_true rfl) dX12_call_68 ⟨Nat.zero_le _, Nat.zero_le _⟩ (fun σ2 H locs hF hP hS => ?_)
        obtain ⟨v3, ev3⟩ : ∃ y : Int32, y = x4 + 1 := ⟨_, rfl⟩
        replace hF := hF v3 ev3
        refine lv_iinc (v := v3) (lv' := [(4, .int v3), (0, .ref (α.1 1)), (2, .int x2), (3, .int x3)]) hx hb dX12_call_71 hl (k := 3) rfl (by rw [ev3]; rfl) (by decide) rfl (fun ls hl => ?_)
        refine lv_goto (tgt := 45) hx hb dX12_call_74 (by decide) ?_
        exact ih45 σ2 x2 x3 v3 hF H locs ls hP hS (lv_sub hl [1, 2, 3, 0] rfl)
  unfold mp_X12_call at hF
  revert hP hS
  generalize hLo : ([] : List Loc) = locs
  suffices h9 : ∀ (H : Heap) (locs : List Loc), va_P D vwCl (sm_wM σ α) H → va_S A s.heap H locs → W p l e (headSpec wp_X12_call { frames := 3, cells := 0, slots := 0, locals := 67 }).room s m ([.ref (α.1 1), .int p1] : List Value).toArray below meth c H locs 0 0 (MQ below (va_Qi K (sm_B sm_wM D α) A) ([.ref (α.1 1), .int p1] : List Value).toArray s 0 0 A) (F0 m 0 ls []) from fun hP hS => h9 s.heap locs hP hS
  intro H locs hP hS
  refine lv_aload_n hx hb dX12_call_0 rfl (lv_at hl 0 rfl) ?_
  refine lv_bipush (v := 16) hx hb dX12_call_1 (by decide) ?_
  refine sm_vi (As := [.int 16]) (rest := []) hP hK hD hE hS hA ⟨hx, hb, hml, hown, hts⟩ hl.1 (c_X12_make l D H.size t0 σ α 16 _ hF) (cwV 1 hts wg_X12_call_X12_make_274 rfl rfl rfl (by decide +kernel) ⟨Nat.le_of_ble_eq_true rfl, Nat.le_of_ble_eq_true rfl⟩) (va_recv hK hP (ci := 12) (q0 := 1) rfl (sm_gX12 σ α)) rfl rfl (Nat.le_of_ble_eq_true rfl) dX12_call_3 ⟨Nat.zero_le _, Nat.zero_le _⟩ (fun r5 σ4 H locs hF hP hS => ?_)
  refine lv_if_ne (tgt := 14) hx hb dX12_call_6 (by decide) (fun h6 => ?_) (fun h6 => ?_)
  · replace hF := hF.1 h6
    refine lv_aload_n hx hb dX12_call_14 rfl (lv_at hl 0 rfl) ?_
    refine va_get (D := D) (ci := 12) (v := .ref (α.1 0)) (C := RX12) (T := TX12) (N := 42) hx hb hts in_X12 hown hK hP 1 (sm_gX12 σ4 α) rfl 0 (by decide) k_1 (fun _ h9 => h9) rfl dX12_call_15 ?_
    refine va_getN (D := D) (ci := 11) (v := .ref (α.1 12)) (C := RX11) (T := TX11) (N := 28) hx hb hts in_X11 hown hK hP 0 (sm_gX11 σ4 α) rfl 17 (by decide) (va_Nw.use rfl (hE.1 (.fieldLinkNest "SteadyMachineModel" 68 "SteadyMachineModel$Image" "parameterCounts" "[I" "SteadyMachineModel") (by decide +kernel))) (fun _ h9 => h9) rfl dX12_call_18 ?_
    refine lv_iload_n hx hb dX12_call_21 rfl (lv_at hl 1 rfl) ?_
    obtain ⟨h7, hF⟩ := hF
    refine va_iald (n := (σ4.2.2.1 12)) (f := (σ4.2.2.2.1 12)) hx hb hK hP 12 10 (sm_aM12 σ4 α) (sm_yM12 α) h7 dX12_call_22 ?_
    refine lv_topi (fun v8 ev8 => ?_)
    replace hF := hF v8 ev8
    refine lv_istore_n (lv' := [(2, .int v8), (0, .ref (α.1 1)), (1, .int p1)]) hx hb dX12_call_23 rfl hl (by decide) rfl (fun ls hl => ?_)
    refine lv_aload_n hx hb dX12_call_24 rfl (lv_at hl 1 rfl) ?_
    refine lv_iload_n hx hb dX12_call_25 rfl (lv_at hl 0 rfl) ?_
    refine lv_iconst (v := 1) hx hb dX12_call_26 (by decide) ?_
    refine lv_isub hx hb dX12_call_27 ?_
    refine sm_vi (As := [.int (v8 - 1)]) (rest := []) hP hK hD hE hS hA ⟨hx, hb, hml, hown, hts⟩ hl.1 (c_X12_under l D H.size t0 σ4 α (v8 - 1) _ hF) (cwV 1 hts wg_X12_call_X12_under_320 rfl rfl rfl (by decide +kernel) ⟨Nat.le_of_ble_eq_true rfl, Nat.le_of_ble_eq_true rfl⟩) (va_recv hK hP (ci := 12) (q0 := 1) rfl (sm_gX12 σ4 α)) rfl rfl (Nat.le_of_ble_eq_true rfl) dX12_call_28 ⟨Nat.zero_le _, Nat.zero_le _⟩ (fun r10 σ9 H locs hF hP hS => ?_)
    refine lv_istore_n (lv' := [(3, .int r10), (2, .int v8), (0, .ref (α.1 1)), (1, .int p1)]) hx hb dX12_call_31 rfl hl (by decide) rfl (fun ls hl => ?_)
    refine lv_aload_n hx hb dX12_call_32 rfl (lv_at hl 2 rfl) ?_
    refine lv_iload_n hx hb dX12_call_33 rfl (lv_at hl 1 rfl) ?_
    refine sm_vv (As := [.int v8]) (rest := []) hP hK hD hE hS hA ⟨hx, hb, hml, hown, hts⟩ hl.1 (c_X12_drop l D H.size t0 σ9 α v8 _ hF) (cwV 1 hts wg_X12_call_X12_drop_359 rfl rfl rfl (by decide +kernel) ⟨Nat.le_of_ble_eq_true rfl, Nat.le_of_ble_eq_true rfl⟩) (va_recv hK hP (ci := 12) (q0 := 1) rfl (sm_gX12 σ9 α)) rfl rfl (Nat.le_of_ble_eq_true rfl) dX12_call_34 ⟨Nat.zero_le _, Nat.zero_le _⟩ (fun σ11 H locs hF hP hS => ?_)
    refine lv_aload_n hx hb dX12_call_37 rfl (lv_at hl 2 rfl) ?_
    refine lv_iload_n hx hb dX12_call_38 rfl (lv_at hl 3 rfl) ?_
    refine sm_vv (As := [.int p1]) (rest := []) hP hK hD hE hS hA ⟨hx, hb, hml, hown, hts⟩ hl.1 (c_X12_enter l D H.size t0 σ11 α p1 _ hF) (cwV 1 hts wg_X12_call_X12_enter_280 rfl rfl rfl (by decide +kernel) ⟨Nat.le_of_ble_eq_true rfl, Nat.le_of_ble_eq_true rfl⟩) (va_recv hK hP (ci := 12) (q0 := 1) rfl (sm_gX12 σ11 α)) rfl rfl (Nat.le_of_ble_eq_true rfl) dX12_call_39 ⟨Nat.zero_le _, Nat.zero_le _⟩ (fun σ12 H locs hF hP hS => ?_)
    refine lv_iconst (v := 0) hx hb dX12_call_42 (by decide) ?_
    refine lv_istore (lv' := [(4, .int 0), (3, .int r10), (2, .int v8), (0, .ref (α.1 1)), (1, .int p1)]) hx hb dX12_call_43 hl (by decide) rfl (fun ls hl => ?_)
    obtain ⟨n45, hF⟩ := hF
    exact B45 n45 σ12 v8 r10 0 hF H locs ls hP hS (lv_sub hl [3, 2, 1, 0] rfl)
  · replace hF := hF.2 h6
    refine lv_aload_n hx hb dX12_call_9 rfl (lv_at hl 0 rfl) ?_
    refine sm_vi (As := []) (rest := []) hP hK hD hE hS hA ⟨hx, hb, hml, hown, hts⟩ hl.1 (c_X12_noRoom l D H.size t0 σ4 α _ hF) (cwV 0 hts wg_X12_call_X12_noRoom_326 rfl rfl rfl (by decide +kernel) ⟨Nat.le_of_ble_eq_true rfl, Nat.le_of_ble_eq_true rfl⟩) (va_recv hK hP (ci := 12) (q0 := 1) rfl (sm_gX12 σ4 α)) rfl rfl (Nat.le_of_ble_eq_true rfl) dX12_call_10 ⟨Nat.zero_le _, Nat.zero_le _⟩ (fun r14 σ13 H locs hF hP hS => ?_)
    obtain ⟨h15, hF⟩ := hF
    exact W.zret (v := r14) hx hb hr h15.1 (fun t ht hW => ⟨⟨r14, σ13, rfl, hF, (by unfold sm_B; rw [ht]; exact hP)⟩, hS.F ht⟩) hS.2.2 dX12_call_13
theorem dX12_deep_0 : decode cX12_deep 0 = .ok (.iload_n 0, 1) := by decide +kernel
theorem dX12_deep_1 : decode cX12_deep 1 = .ok (.bipush 15, 2) := by decide +kernel
theorem dX12_deep_3 : decode cX12_deep 3 = .ok (.if_icmp .gt 7, 3) := by decide +kernel
theorem dX12_deep_6 : decode cX12_deep 6 = .ok (.iconst 0, 1) := by decide +kernel
theorem dX12_deep_7 : decode cX12_deep 7 = .ok (.goto 15, 3) := by decide +kernel
theorem dX12_deep_10 : decode cX12_deep 10 = .ok (.iload_n 0, 1) := by decide +kernel
theorem dX12_deep_11 : decode cX12_deep 11 = .ok (.sipush 225, 3) := by decide +kernel
theorem dX12_deep_14 : decode cX12_deep 14 = .ok (.if_icmp .gt 7, 3) := by decide +kernel
theorem dX12_deep_17 : decode cX12_deep 17 = .ok (.iconst 1, 1) := by decide +kernel
theorem dX12_deep_18 : decode cX12_deep 18 = .ok (.goto 4, 3) := by decide +kernel
theorem dX12_deep_21 : decode cX12_deep 21 = .ok (.iconst 2, 1) := by decide +kernel
theorem dX12_deep_22 : decode cX12_deep 22 = .ok (.ireturn, 1) := by decide +kernel
def wp_X12_deep : List Cond := .code yX12_deep cX12_deep 1 (some .int) :: []
theorem wq_X12_deep : wp_X12_deep.all goodWord = true := wa_c rfl (by decide +kernel)
theorem wt_X12_deep : GoodIn lw_tbl wp_X12_deep := wm_c (List.mem_of_getElem? (i := 1759) (by decide +kernel)) rfl (goodIn_r _ [] (by decide +kernel) (by decide +kernel))
set_option maxHeartbeats 4000000 in
set_option maxRecDepth 100000 in
theorem c_X12_deep (l : Launch) (D : va_G) (sz t0 : Nat) (σ : sm_S) (α : sm_A) (p1 : Int32) (K : Int32 → sm_S → Prop) (hF : mp_X12_deep σ p1 K) : Met l yX12_deep wp_X12_deep { frames := 0, cells := 0, slots := 0, locals := 0 } (sm_P sm_wM sm_tM 40 D sz t0 σ α [.int p1]) (va_Qi K (sm_B sm_wM D α) (sm_a α 40 sz)) 0 0 (sm_a α 40 sz) := by
  refine Met.ofW (cc := cX12_deep) (maxL := 1) (ret := (some .int)) (by decide) rfl ?_
  intro p e s m args below meth c s₁ B hml hv
  obtain ⟨rfl, hsz, hP, hK, hD0, hE⟩ := hv
  have hx := B.exec
  have hb := B.bytes
  have hr := B.returns
  have hts := atoms_spec (ws := wp_X12_deep) B.pre
  have hown : s.vm.findClass RX12 = some m.cls := findClass_of_methodNamed B.named
  have hlocks := B.notSynchronized
  subst hsz
  have hD : sm_D (sm_a α 40 s.heap.size) α 40 := hD0.own
  have hA : ∀ q : Nat, s.heap.size ≤ q → sm_a α 40 s.heap.size q := fun q h => Or.inr h
  generalize hAe : sm_a α 40 s.heap.size = A at hD hA hE ⊢
  have hS : va_S A s.heap s.heap [] := va_S.rf
  have hl := lv_entry ([.int p1]) (n := 1) (Nat.le_of_ble_eq_true rfl)
  rw [lg_entry_eq]
  generalize (lg_sl ([.int p1]) ++ List.replicate (1 - (lg_sl ([.int p1])).length) Slot.unset).toArray = ls at hl ⊢
  have hl : lv_has ls 1 [(0, .int p1)] := hl
  have B22 : ∀ (σ : sm_S) (y0 : Int32), mp_X12_deep_22 K σ y0 → sm_J p l e (headSpec wp_X12_deep { frames := 0, cells := 0, slots := 0, locals := 0 }).room s m ([.int p1] : List Value).toArray below meth c (MQ below (va_Qi K (sm_B sm_wM D α) A) ([.int p1] : List Value).toArray s 0 0 A) D A 1 (sm_wM σ α) 22 [] [.int y0] := by
    intro σ y0 hF H locs ls hP hS hl
    unfold mp_X12_deep_22 at hF
    exact W.iret (v := y0) hx hb hr (fun t ht hW => ⟨⟨y0, σ, rfl, hF, (by unfold sm_B; rw [ht]; exact hP)⟩, hS.F ht⟩) hS.2.2 dX12_deep_22
  unfold mp_X12_deep at hF
  revert hP hS
  generalize hLo : ([] : List Loc) = locs
  suffices h9 : ∀ (H : Heap) (locs : List Loc), va_P D vwCl (sm_wM σ α) H → va_S A s.heap H locs → W p l e (headSpec wp_X12_deep { frames := 0, cells := 0, slots := 0, locals := 0 }).room s m ([.int p1] : List Value).toArray below meth c H locs 0 0 (MQ below (va_Qi K (sm_B sm_wM D α) A) ([.int p1] : List Value).toArray s 0 0 A) (F0 m 0 ls []) from fun hP hS => h9 s.heap locs hP hS
  intro H locs hP hS
  refine lv_iload_n hx hb dX12_deep_0 rfl (lv_at hl 0 rfl) ?_
  refine lv_bipush (v := 15) hx hb dX12_deep_1 (by decide) ?_
  refine lv_icmp_gt (tgt := 10) hx hb dX12_deep_3 (by decide) (fun h1 => ?_) (fun h1 => ?_)
  · replace hF := hF.1 h1
    refine lv_iload_n hx hb dX12_deep_10 rfl (lv_at hl 0 rfl) ?_
    refine lv_sipush (v := 225) hx hb dX12_deep_11 (by decide) ?_
    refine lv_icmp_gt (tgt := 21) hx hb dX12_deep_14 (by decide) (fun h2 => ?_) (fun h2 => ?_)
    · replace hF := hF.1 h2
      refine lv_iconst (v := 2) hx hb dX12_deep_21 (by decide) ?_
      exact B22 σ 2 hF H locs ls hP hS (lv_sub hl [] rfl)
    · replace hF := hF.2 h2
      refine lv_iconst (v := 1) hx hb dX12_deep_17 (by decide) ?_
      refine lv_goto (tgt := 22) hx hb dX12_deep_18 (by decide) ?_
      exact B22 σ 1 hF H locs ls hP hS (lv_sub hl [] rfl)
  · replace hF := hF.2 h1
    refine lv_iconst (v := 0) hx hb dX12_deep_6 (by decide) ?_
    refine lv_goto (tgt := 22) hx hb dX12_deep_7 (by decide) ?_
    exact B22 σ 0 hF H locs ls hP hS (lv_sub hl [] rfl)
theorem dX12_wideOf_0 : decode cX12_wideOf 0 = .ok (.iload_n 0, 1) := by decide +kernel
theorem dX12_wideOf_1 : decode cX12_wideOf 1 = .ok (.iconst 2, 1) := by decide +kernel
theorem dX12_wideOf_2 : decode cX12_wideOf 2 = .ok (.if_icmp .ne 9, 3) := by decide +kernel
theorem dX12_wideOf_5 : decode cX12_wideOf 5 = .ok (.sipush 225, 3) := by decide +kernel
theorem dX12_wideOf_8 : decode cX12_wideOf 8 = .ok (.goto 14, 3) := by decide +kernel
theorem dX12_wideOf_11 : decode cX12_wideOf 11 = .ok (.iload_n 0, 1) := by decide +kernel
theorem dX12_wideOf_12 : decode cX12_wideOf 12 = .ok (.iconst 1, 1) := by decide +kernel
theorem dX12_wideOf_13 : decode cX12_wideOf 13 = .ok (.if_icmp .ne 8, 3) := by decide +kernel
theorem dX12_wideOf_16 : decode cX12_wideOf 16 = .ok (.bipush 15, 2) := by decide +kernel
theorem dX12_wideOf_18 : decode cX12_wideOf 18 = .ok (.goto 4, 3) := by decide +kernel
theorem dX12_wideOf_21 : decode cX12_wideOf 21 = .ok (.iconst 1, 1) := by decide +kernel
theorem dX12_wideOf_22 : decode cX12_wideOf 22 = .ok (.ireturn, 1) := by decide +kernel
def wp_X12_wideOf : List Cond := .code yX12_wideOf cX12_wideOf 1 (some .int) :: []
theorem wq_X12_wideOf : wp_X12_wideOf.all goodWord = true := wa_c rfl (by decide +kernel)
theorem wt_X12_wideOf : GoodIn lw_tbl wp_X12_wideOf := wm_c (List.mem_of_getElem? (i := 1766) (by decide +kernel)) rfl (goodIn_r _ [] (by decide +kernel) (by decide +kernel))
set_option maxHeartbeats 4000000 in
set_option maxRecDepth 100000 in
theorem c_X12_wideOf (l : Launch) (D : va_G) (sz t0 : Nat) (σ : sm_S) (α : sm_A) (p1 : Int32) (K : Int32 → sm_S → Prop) (hF : mp_X12_wideOf σ p1 K) : Met l yX12_wideOf wp_X12_wideOf { frames := 0, cells := 0, slots := 0, locals := 0 } (sm_P sm_wM sm_tM 40 D sz t0 σ α [.int p1]) (va_Qi K (sm_B sm_wM D α) (sm_a α 40 sz)) 0 0 (sm_a α 40 sz) := by
  refine Met.ofW (cc := cX12_wideOf) (maxL := 1) (ret := (some .int)) (by decide) rfl ?_
  intro p e s m args below meth c s₁ B hml hv
  obtain ⟨rfl, hsz, hP, hK, hD0, hE⟩ := hv
  have hx := B.exec
  have hb := B.bytes
  have hr := B.returns
  have hts := atoms_spec (ws := wp_X12_wideOf) B.pre
  have hown : s.vm.findClass RX12 = some m.cls := findClass_of_methodNamed B.named
  have hlocks := B.notSynchronized
  subst hsz
  have hD : sm_D (sm_a α 40 s.heap.size) α 40 := hD0.own
  have hA : ∀ q : Nat, s.heap.size ≤ q → sm_a α 40 s.heap.size q := fun q h => Or.inr h
  generalize hAe : sm_a α 40 s.heap.size = A at hD hA hE ⊢
  have hS : va_S A s.heap s.heap [] := va_S.rf
  have hl := lv_entry ([.int p1]) (n := 1) (Nat.le_of_ble_eq_true rfl)
  rw [lg_entry_eq]
  generalize (lg_sl ([.int p1]) ++ List.replicate (1 - (lg_sl ([.int p1])).length) Slot.unset).toArray = ls at hl ⊢
  have hl : lv_has ls 1 [(0, .int p1)] := hl
  have B22 : ∀ (σ : sm_S) (y0 : Int32), mp_X12_wideOf_22 K σ y0 → sm_J p l e (headSpec wp_X12_wideOf { frames := 0, cells := 0, slots := 0, locals := 0 }).room s m ([.int p1] : List Value).toArray below meth c (MQ below (va_Qi K (sm_B sm_wM D α) A) ([.int p1] : List Value).toArray s 0 0 A) D A 1 (sm_wM σ α) 22 [] [.int y0] := by
    intro σ y0 hF H locs ls hP hS hl
    unfold mp_X12_wideOf_22 at hF
    exact W.iret (v := y0) hx hb hr (fun t ht hW => ⟨⟨y0, σ, rfl, hF, (by unfold sm_B; rw [ht]; exact hP)⟩, hS.F ht⟩) hS.2.2 dX12_wideOf_22
  unfold mp_X12_wideOf at hF
  revert hP hS
  generalize hLo : ([] : List Loc) = locs
  suffices h9 : ∀ (H : Heap) (locs : List Loc), va_P D vwCl (sm_wM σ α) H → va_S A s.heap H locs → W p l e (headSpec wp_X12_wideOf { frames := 0, cells := 0, slots := 0, locals := 0 }).room s m ([.int p1] : List Value).toArray below meth c H locs 0 0 (MQ below (va_Qi K (sm_B sm_wM D α) A) ([.int p1] : List Value).toArray s 0 0 A) (F0 m 0 ls []) from fun hP hS => h9 s.heap locs hP hS
  intro H locs hP hS
  refine lv_iload_n hx hb dX12_wideOf_0 rfl (lv_at hl 0 rfl) ?_
  refine lv_iconst (v := 2) hx hb dX12_wideOf_1 (by decide) ?_
  refine lv_icmp_ne (tgt := 11) hx hb dX12_wideOf_2 (by decide) (fun h1 => ?_) (fun h1 => ?_)
  · replace hF := hF.1 h1
    refine lv_iload_n hx hb dX12_wideOf_11 rfl (lv_at hl 0 rfl) ?_
    refine lv_iconst (v := 1) hx hb dX12_wideOf_12 (by decide) ?_
    refine lv_icmp_ne (tgt := 21) hx hb dX12_wideOf_13 (by decide) (fun h2 => ?_) (fun h2 => ?_)
    · replace hF := hF.1 h2
      refine lv_iconst (v := 1) hx hb dX12_wideOf_21 (by decide) ?_
      exact B22 σ 1 hF H locs ls hP hS (lv_sub hl [] rfl)
    · replace hF := hF.2 h2
      refine lv_bipush (v := 15) hx hb dX12_wideOf_16 (by decide) ?_
      refine lv_goto (tgt := 22) hx hb dX12_wideOf_18 (by decide) ?_
      exact B22 σ 15 hF H locs ls hP hS (lv_sub hl [] rfl)
  · replace hF := hF.2 h1
    refine lv_sipush (v := 225) hx hb dX12_wideOf_5 (by decide) ?_
    refine lv_goto (tgt := 22) hx hb dX12_wideOf_8 (by decide) ?_
    exact B22 σ 225 hF H locs ls hP hS (lv_sub hl [] rfl)
theorem dX12_itemCell_0 : decode cX12_itemCell 0 = .ok (.iload_n 1, 1) := by decide +kernel
theorem dX12_itemCell_1 : decode cX12_itemCell 1 = .ok (.istore_n 3, 1) := by decide +kernel
theorem dX12_itemCell_2 : decode cX12_itemCell 2 = .ok (.iload_n 2, 1) := by decide +kernel
theorem dX12_itemCell_3 : decode cX12_itemCell 3 = .ok (.istore 4, 2) := by decide +kernel
theorem dX12_itemCell_5 : decode cX12_itemCell 5 = .ok (.aload_n 0, 1) := by decide +kernel
theorem dX12_itemCell_6 : decode cX12_itemCell 6 = .ok (.getfield 183, 3) := by decide +kernel
theorem dX12_itemCell_9 : decode cX12_itemCell 9 = .ok (.iload_n 1, 1) := by decide +kernel
theorem dX12_itemCell_10 : decode cX12_itemCell 10 = .ok (.iaload, 1) := by decide +kernel
theorem dX12_itemCell_11 : decode cX12_itemCell 11 = .ok (.invokestatic 391, 3) := by decide +kernel
theorem dX12_itemCell_14 : decode cX12_itemCell 14 = .ok (.istore 5, 2) := by decide +kernel
theorem dX12_itemCell_16 : decode cX12_itemCell 16 = .ok (.iload 5, 2) := by decide +kernel
theorem dX12_itemCell_18 : decode cX12_itemCell 18 = .ok (.ifCond .le 78, 3) := by decide +kernel
theorem dX12_itemCell_21 : decode cX12_itemCell 21 = .ok (.aload_n 0, 1) := by decide +kernel
theorem dX12_itemCell_22 : decode cX12_itemCell 22 = .ok (.getfield 192, 3) := by decide +kernel
theorem dX12_itemCell_25 : decode cX12_itemCell 25 = .ok (.iload_n 3, 1) := by decide +kernel
theorem dX12_itemCell_26 : decode cX12_itemCell 26 = .ok (.iaload, 1) := by decide +kernel
theorem dX12_itemCell_27 : decode cX12_itemCell 27 = .ok (.iload 4, 2) := by decide +kernel
theorem dX12_itemCell_29 : decode cX12_itemCell 29 = .ok (.iload 5, 2) := by decide +kernel
theorem dX12_itemCell_31 : decode cX12_itemCell 31 = .ok (.invokestatic 394, 3) := by decide +kernel
theorem dX12_itemCell_34 : decode cX12_itemCell 34 = .ok (.idiv, 1) := by decide +kernel
theorem dX12_itemCell_35 : decode cX12_itemCell 35 = .ok (.iadd, 1) := by decide +kernel
theorem dX12_itemCell_36 : decode cX12_itemCell 36 = .ok (.istore 6, 2) := by decide +kernel
theorem dX12_itemCell_38 : decode cX12_itemCell 38 = .ok (.iload 4, 2) := by decide +kernel
theorem dX12_itemCell_40 : decode cX12_itemCell 40 = .ok (.iload 5, 2) := by decide +kernel
theorem dX12_itemCell_42 : decode cX12_itemCell 42 = .ok (.invokestatic 394, 3) := by decide +kernel
theorem dX12_itemCell_45 : decode cX12_itemCell 45 = .ok (.irem, 1) := by decide +kernel
theorem dX12_itemCell_46 : decode cX12_itemCell 46 = .ok (.istore 4, 2) := by decide +kernel
theorem dX12_itemCell_48 : decode cX12_itemCell 48 = .ok (.aload_n 0, 1) := by decide +kernel
theorem dX12_itemCell_49 : decode cX12_itemCell 49 = .ok (.getfield 199, 3) := by decide +kernel
theorem dX12_itemCell_52 : decode cX12_itemCell 52 = .ok (.iload 6, 2) := by decide +kernel
theorem dX12_itemCell_54 : decode cX12_itemCell 54 = .ok (.iaload, 1) := by decide +kernel
theorem dX12_itemCell_55 : decode cX12_itemCell 55 = .ok (.iconst (-1), 1) := by decide +kernel
theorem dX12_itemCell_56 : decode cX12_itemCell 56 = .ok (.if_icmp .ne 26, 3) := by decide +kernel
theorem dX12_itemCell_59 : decode cX12_itemCell 59 = .ok (.aload_n 0, 1) := by decide +kernel
theorem dX12_itemCell_60 : decode cX12_itemCell 60 = .ok (.iload 6, 2) := by decide +kernel
theorem dX12_itemCell_62 : decode cX12_itemCell 62 = .ok (.putfield 397, 3) := by decide +kernel
theorem dX12_itemCell_65 : decode cX12_itemCell 65 = .ok (.aload_n 0, 1) := by decide +kernel
theorem dX12_itemCell_66 : decode cX12_itemCell 66 = .ok (.iload 5, 2) := by decide +kernel
theorem dX12_itemCell_68 : decode cX12_itemCell 68 = .ok (.iconst 1, 1) := by decide +kernel
theorem dX12_itemCell_69 : decode cX12_itemCell 69 = .ok (.if_icmp .ne 7, 3) := by decide +kernel
theorem dX12_itemCell_72 : decode cX12_itemCell 72 = .ok (.iconst 1, 1) := by decide +kernel
theorem dX12_itemCell_73 : decode cX12_itemCell 73 = .ok (.goto 4, 3) := by decide +kernel
theorem dX12_itemCell_76 : decode cX12_itemCell 76 = .ok (.iconst 0, 1) := by decide +kernel
theorem dX12_itemCell_77 : decode cX12_itemCell 77 = .ok (.putfield 400, 3) := by decide +kernel
theorem dX12_itemCell_80 : decode cX12_itemCell 80 = .ok (.iconst (-1), 1) := by decide +kernel
theorem dX12_itemCell_81 : decode cX12_itemCell 81 = .ok (.ireturn, 1) := by decide +kernel
theorem dX12_itemCell_82 : decode cX12_itemCell 82 = .ok (.aload_n 0, 1) := by decide +kernel
theorem dX12_itemCell_83 : decode cX12_itemCell 83 = .ok (.getfield 199, 3) := by decide +kernel
theorem dX12_itemCell_86 : decode cX12_itemCell 86 = .ok (.iload 6, 2) := by decide +kernel
theorem dX12_itemCell_88 : decode cX12_itemCell 88 = .ok (.iaload, 1) := by decide +kernel
theorem dX12_itemCell_89 : decode cX12_itemCell 89 = .ok (.istore_n 3, 1) := by decide +kernel
theorem dX12_itemCell_90 : decode cX12_itemCell 90 = .ok (.iinc 5 (-1), 3) := by decide +kernel
theorem dX12_itemCell_93 : decode cX12_itemCell 93 = .ok (.goto (-77), 3) := by decide +kernel
theorem dX12_itemCell_96 : decode cX12_itemCell 96 = .ok (.aload_n 0, 1) := by decide +kernel
theorem dX12_itemCell_97 : decode cX12_itemCell 97 = .ok (.getfield 192, 3) := by decide +kernel
theorem dX12_itemCell_100 : decode cX12_itemCell 100 = .ok (.iload_n 3, 1) := by decide +kernel
theorem dX12_itemCell_101 : decode cX12_itemCell 101 = .ok (.iaload, 1) := by decide +kernel
theorem dX12_itemCell_102 : decode cX12_itemCell 102 = .ok (.iload 4, 2) := by decide +kernel
theorem dX12_itemCell_104 : decode cX12_itemCell 104 = .ok (.iadd, 1) := by decide +kernel
theorem dX12_itemCell_105 : decode cX12_itemCell 105 = .ok (.ireturn, 1) := by decide +kernel
def wp_X12_itemCell : List Cond := .code yX12_itemCell cX12_itemCell 7 (some .int) :: ((([.fieldLink RX12 400 "SteadyMachineModel" "missingLast" "Z", .fieldLink RX12 192 "SteadyMachineModel" "begins" "[I", .fieldLink RX12 199 "SteadyMachineModel" "cells" "[I", .fieldLink RX12 397 "SteadyMachineModel" "missing" "I", .fieldLink RX12 183 "SteadyMachineModel" "infos" "[I"] ++ (va_wsS RX12 394 yX12_wideOf wp_X12_wideOf)) ++ (va_wsS RX12 391 yX12_deep wp_X12_deep)) ++ wsX120)
theorem wq_X12_itemCell : wp_X12_itemCell.all goodWord = true := wa_c rfl (wa_a (wa_a (wa_a (by decide +kernel) (wa_S wq_X12_wideOf)) (wa_S wq_X12_deep)) uq_X12)
theorem wt_X12_itemCell : GoodIn lw_tbl wp_X12_itemCell := wm_c (List.mem_of_getElem? (i := 1763) (by decide +kernel)) rfl (wm_a (wm_a (wm_a (goodIn_r _ [1531, 1502, 1506, 1530, 1499] (by decide +kernel) (by decide +kernel)) (wm_a (goodIn_r _ [1764, 1765, 147] (by decide +kernel) (by decide +kernel)) wt_X12_wideOf)) (wm_a (goodIn_r _ [1757, 1758, 147] (by decide +kernel) (by decide +kernel)) wt_X12_deep)) ut_X12)
theorem wg_X12_itemCell_X12_wideOf_394 : GoodIn wp_X12_itemCell (va_wsS RX12 394 yX12_wideOf wp_X12_wideOf) := goodIn_sub (fun w h => List.mem_cons_of_mem _ (List.mem_append_left _ (List.mem_append_left _ (List.mem_append_right _ h)))) (wa_S wq_X12_wideOf)
theorem wg_X12_itemCell_X12_deep_391 : GoodIn wp_X12_itemCell (va_wsS RX12 391 yX12_deep wp_X12_deep) := goodIn_sub (fun w h => List.mem_cons_of_mem _ (List.mem_append_left _ (List.mem_append_right _ h))) (wa_S wq_X12_deep)
theorem wi_X12_itemCell_X12 : ∀ w ∈ wsX120, w ∈ wp_X12_itemCell := fun w h => List.mem_cons_of_mem _ (List.mem_append_right _ h)
set_option maxHeartbeats 4000000 in
set_option maxRecDepth 100000 in
theorem c_X12_itemCell (l : Launch) (D : va_G) (sz t0 : Nat) (σ : sm_S) (α : sm_A) (p1 : Int32) (p2 : Int32) (K : Int32 → sm_S → Prop) (hF : mp_X12_itemCell σ p1 p2 K) : Met l yX12_itemCell wp_X12_itemCell { frames := 1, cells := 0, slots := 0, locals := 20 } (sm_P sm_wM sm_tM 40 D sz t0 σ α [.ref (α.1 1), .int p1, .int p2]) (va_Qi K (sm_B sm_wM D α) (sm_a α 40 sz)) 0 0 (sm_a α 40 sz) := by
  refine Met.ofW (cc := cX12_itemCell) (maxL := 7) (ret := (some .int)) (by decide) rfl ?_
  intro p e s m args below meth c s₁ B hml hv
  obtain ⟨rfl, hsz, hP, hK, hD0, hE⟩ := hv
  have hx := B.exec
  have hb := B.bytes
  have hr := B.returns
  have hts := atoms_spec (ws := wp_X12_itemCell) B.pre
  have hown : s.vm.findClass RX12 = some m.cls := findClass_of_methodNamed B.named
  have hlocks := B.notSynchronized
  subst hsz
  have hD : sm_D (sm_a α 40 s.heap.size) α 40 := hD0.own
  have hA : ∀ q : Nat, s.heap.size ≤ q → sm_a α 40 s.heap.size q := fun q h => Or.inr h
  generalize hAe : sm_a α 40 s.heap.size = A at hD hA hE ⊢
  have hS : va_S A s.heap s.heap [] := va_S.rf
  have in_X12 : ∀ w ∈ wsX120, w ∈ wp_X12_itemCell := wi_X12_itemCell_X12
  have k_0 := hts (.fieldLink RX12 400 "SteadyMachineModel" "missingLast" "Z") (by decide +kernel)
  have k_1 := hts (.fieldLink RX12 192 "SteadyMachineModel" "begins" "[I") (by decide +kernel)
  have k_2 := hts (.fieldLink RX12 199 "SteadyMachineModel" "cells" "[I") (by decide +kernel)
  have k_3 := hts (.fieldLink RX12 397 "SteadyMachineModel" "missing" "I") (by decide +kernel)
  have k_4 := hts (.fieldLink RX12 183 "SteadyMachineModel" "infos" "[I") (by decide +kernel)
  have hl := lv_entry ([.ref (α.1 1), .int p1, .int p2]) (n := 7) (Nat.le_of_ble_eq_true rfl)
  rw [lg_entry_eq]
  generalize (lg_sl ([.ref (α.1 1), .int p1, .int p2]) ++ List.replicate (7 - (lg_sl ([.ref (α.1 1), .int p1, .int p2])).length) Slot.unset).toArray = ls at hl ⊢
  have hl : lv_has ls 7 [(0, .ref (α.1 1)), (1, .int p1), (2, .int p2)] := hl
  have B77 : ∀ (L16 : sm_S → Int32 → Int32 → Int32 → Prop) (hL16 : ∀ (σ : sm_S) (x3 : Int32) (x4 : Int32) (x5 : Int32), L16 σ x3 x4 x5 → sm_J p l e (headSpec wp_X12_itemCell { frames := 1, cells := 0, slots := 0, locals := 20 }).room s m ([.ref (α.1 1), .int p1, .int p2] : List Value).toArray below meth c (MQ below (va_Qi K (sm_B sm_wM D α) A) ([.ref (α.1 1), .int p1, .int p2] : List Value).toArray s 0 0 A) D A 7 (sm_wM σ α) 16 [(0, .ref (α.1 1)), (3, .int x3), (4, .int x4), (5, .int x5)] []) (σ : sm_S) (y1 : Int32), mp_X12_itemCell_77 L16 K σ y1 → sm_J p l e (headSpec wp_X12_itemCell { frames := 1, cells := 0, slots := 0, locals := 20 }).room s m ([.ref (α.1 1), .int p1, .int p2] : List Value).toArray below meth c (MQ below (va_Qi K (sm_B sm_wM D α) A) ([.ref (α.1 1), .int p1, .int p2] : List Value).toArray s 0 0 A) D A 7 (sm_wM σ α) 77 [] [.int y1, .ref (α.1 1)] := by
    intro L16 hL16 σ y1 hF H locs ls hP hS hl
    unfold mp_X12_itemCell_77 at hF
    obtain ⟨h1, hF⟩ := hF
    refine va_put (D := D) (ci := 12) (v := .int y1) (ty := .boolean) (C := RX12) (T := TX12) (N := 42) hx hb hts in_X12 tyX12 tyX12_ok nmX12 hown hK hP (hD.to (sm_wM_m _ _)) hS 1 (sm_gX12 σ α) rfl 41 (by decide) k_0 (fun _ h9 => h9) rfl (by decide +kernel) h1.1 h1.2 (Nat.le_of_ble_eq_true rfl) dX12_itemCell_77 (fun H locs hP _ hS => ?_)
    rw [sm_iM27] at hP
    obtain ⟨σ2, eσ2⟩ : ∃ x : sm_S, x = sm_i σ 27 y1 := ⟨_, rfl⟩
    replace hF := hF σ2 eσ2
    rw [← eσ2] at hP
    refine lv_iconst (v := -1) hx hb dX12_itemCell_80 (by decide) ?_
    exact W.iret (v := (-1)) hx hb hr (fun t ht hW => ⟨⟨(-1), σ2, rfl, hF, (by unfold sm_B; rw [ht]; exact hP)⟩, hS.F ht⟩) hS.2.2 dX12_itemCell_81
  have B16 : ∀ (n : Nat) (σ : sm_S) (x3 : Int32) (x4 : Int32) (x5 : Int32), mp_X12_itemCell_16 K n σ x3 x4 x5 → sm_J p l e (headSpec wp_X12_itemCell { frames := 1, cells := 0, slots := 0, locals := 20 }).room s m ([.ref (α.1 1), .int p1, .int p2] : List Value).toArray below meth c (MQ below (va_Qi K (sm_B sm_wM D α) A) ([.ref (α.1 1), .int p1, .int p2] : List Value).toArray s 0 0 A) D A 7 (sm_wM σ α) 16 [(0, .ref (α.1 1)), (3, .int x3), (4, .int x4), (5, .int x5)] [] := by
    intro n16
    induction n16 with
    | zero =>
      intro σ x3 x4 x5 hF
      exact hF.elim
    | succ n16 ih16 =>
      intro σ x3 x4 x5 hF H locs ls hP hS hl
      unfold mp_X12_itemCell_16 at hF
      refine lv_iload hx hb dX12_itemCell_16 (lv_at hl 3 rfl) ?_
      refine lv_if_le (tgt := 96) hx hb dX12_itemCell_18 (by decide) (fun h3 => ?_) (fun h3 => ?_)
      · replace hF := hF.1 h3
        refine lv_aload_n hx hb dX12_itemCell_96 rfl (lv_at hl 0 rfl) ?_
        refine va_get (D := D) (ci := 12) (v := .ref (α.1 29)) (C := RX12) (T := TX12) (N := 42) hx hb hts in_X12 hown hK hP 1 (sm_gX12 σ α) rfl 12 (by decide) k_1 (fun _ h9 => h9) rfl dX12_itemCell_97 ?_
        refine lv_iload_n hx hb dX12_itemCell_100 rfl (lv_at hl 1 rfl) ?_
        obtain ⟨h4, hF⟩ := hF
        refine va_iald (n := (σ.2.2.1 29)) (f := (σ.2.2.2.1 29)) hx hb hK hP 29 27 (sm_aM29 σ α) (sm_yM29 α) h4 dX12_itemCell_101 ?_
        refine lv_iload hx hb dX12_itemCell_102 (lv_at hl 2 rfl) ?_
        refine lv_iadd hx hb dX12_itemCell_104 ?_
        exact W.iret (v := (((σ.2.2.2.1 29) x3.toNatClampNeg) + x4)) hx hb hr (fun t ht hW => ⟨⟨(((σ.2.2.2.1 29) x3.toNatClampNeg) + x4), σ, rfl, hF, (by unfold sm_B; rw [ht]; exact hP)⟩, hS.F ht⟩) hS.2.2 dX12_itemCell_105
      · replace hF := hF.2 h3
        refine lv_aload_n hx hb dX12_itemCell_21 rfl (lv_at hl 0 rfl) ?_
        refine va_get (D := D) (ci := 12) (v := .ref (α.1 29)) (C := RX12) (T := TX12) (N := 42) hx hb hts in_X12 hown hK hP 1 (sm_gX12 σ α) rfl 12 (by decide) k_1 (fun _ h9 => h9) rfl dX12_itemCell_22 ?_
        refine lv_iload_n hx hb dX12_itemCell_25 rfl (lv_at hl 1 rfl) ?_
        obtain ⟨h5, hF⟩ := hF
        refine va_iald (n := (σ.2.2.1 29)) (f := (σ.2.2.2.1 29)) hx hb hK hP 29 27 (sm_aM29 σ α) (sm_yM29 α) h5 dX12_itemCell_26 ?_
        refine lv_iload hx hb dX12_itemCell_27 (lv_at hl 2 rfl) ?_
        refine lv_iload hx hb dX12_itemCell_29 (lv_at hl 3 rfl) ?_
        refine sm_si (As := [.int x5]) (rest := [.int x4, .int ((σ.2.2.2.1 29) x3.toNatClampNeg)]) hP hK hD hE hS hA ⟨hx, hb, hml, hown, hts⟩ hl.1 (c_X12_wideOf l D H.size t0 σ α x5 _ hF) (va_cwS 1 hts wg_X12_itemCell_X12_wideOf_394 rfl rfl rfl (by decide +kernel) ⟨Nat.le_of_ble_eq_true rfl, Nat.le_of_ble_eq_true rfl⟩) rfl rfl (Nat.le_of_ble_eq_true rfl) dX12_itemCell_31 ⟨Nat.zero_le _, Nat.zero_le _⟩ (fun r7 σ6 H locs hF hP hS => ?_)
        obtain ⟨h20, hF⟩ := hF
        refine lv_idiv hx hb dX12_itemCell_34 h20 ?_
        refine lv_iadd hx hb dX12_itemCell_35 ?_
        refine lv_topi (fun v8 ev8 => ?_)
        replace hF := hF v8 ev8
        refine lv_istore (lv' := [(6, .int v8), (0, .ref (α.1 1)), (3, .int x3), (4, .int x4), (5, .int x5)]) hx hb dX12_itemCell_36 hl (by decide) rfl (fun ls hl => ?_)
        refine lv_iload hx hb dX12_itemCell_38 (lv_at hl 3 rfl) ?_
        refine lv_iload hx hb dX12_itemCell_40 (lv_at hl 4 rfl) ?_
        refine sm_si (As := [.int x5]) (rest := [.int x4]) hP hK hD hE hS hA ⟨hx, hb, hml, hown, hts⟩ hl.1 (c_X12_wideOf l D H.size t0 σ6 α x5 _ hF) (va_cwS 1 hts wg_X12_itemCell_X12_wideOf_394 rfl rfl rfl (by decide +kernel) ⟨Nat.le_of_ble_eq_true rfl, Nat.le_of_ble_eq_true rfl⟩) rfl rfl (Nat.le_of_ble_eq_true rfl) dX12_itemCell_42 ⟨Nat.zero_le _, Nat.zero_le _⟩ (fun r10 σ9 H locs hF hP hS => ?_)
        obtain ⟨h19, hF⟩ := hF
        refine lv_irem hx hb dX12_itemCell_45 h19 ?_
        refine lv_topi (fun v11 ev11 => ?_)
        replace hF := hF v11 ev11
        refine lv_istore (lv' := [(4, .int v11), (6, .int v8), (0, .ref (α.1 1)), (3, .int x3), (5, .int x5)]) hx hb dX12_itemCell_46 hl (by decide) rfl (fun ls hl => ?_)
        refine lv_aload_n hx hb dX12_itemCell_48 rfl (lv_at hl 2 rfl) ?_
        refine va_get (D := D) (ci := 12) (v := .ref (α.1 31)) (C := RX12) (T := TX12) (N := 42) hx hb hts in_X12 hown hK hP 1 (sm_gX12 σ9 α) rfl 16 (by decide) k_2 (fun _ h9 => h9) rfl dX12_itemCell_49 ?_
        refine lv_iload hx hb dX12_itemCell_52 (lv_at hl 1 rfl) ?_
        obtain ⟨h12, hF⟩ := hF
        refine va_iald (n := (σ9.2.2.1 31)) (f := (σ9.2.2.2.1 31)) hx hb hK hP 31 29 (sm_aM31 σ9 α) (sm_yM31 α) h12 dX12_itemCell_54 ?_
        refine lv_iconst (v := -1) hx hb dX12_itemCell_55 (by decide) ?_
        refine lv_icmp_ne (tgt := 82) hx hb dX12_itemCell_56 (by decide) (fun h13 => ?_) (fun h13 => ?_)
        · replace hF := hF.1 h13
          refine lv_aload_n hx hb dX12_itemCell_82 rfl (lv_at hl 2 rfl) ?_
          refine va_get (D := D) (ci := 12) (v := .ref (α.1 31)) (C := RX12) (T := TX12) (N := 42) hx hb hts in_X12 hown hK hP 1 (sm_gX12 σ9 α) rfl 16 (by decide) k_2 (fun _ h9 => h9) rfl dX12_itemCell_83 ?_
          refine lv_iload hx hb dX12_itemCell_86 (lv_at hl 1 rfl) ?_
          obtain ⟨h14, hF⟩ := hF
          refine va_iald (n := (σ9.2.2.1 31)) (f := (σ9.2.2.2.1 31)) hx hb hK hP 31 29 (sm_aM31 σ9 α) (sm_yM31 α) h14 dX12_itemCell_88 ?_
          refine lv_topi (fun v15 ev15 => ?_)
          replace hF := hF v15 ev15
          refine lv_istore_n (lv' := [(3, .int v15), (4, .int v11), (6, .int v8), (0, .ref (α.1 1)), (5, .int x5)]) hx hb dX12_itemCell_89 rfl hl (by decide) rfl (fun ls hl => ?_)
          obtain ⟨v16, ev16⟩ : ∃ y : Int32, y = x5 + (-1) := ⟨_, rfl⟩
          replace hF := hF v16 ev16
          refine lv_iinc (v := v16) (lv' := [(5, .int v16), (3, .int v15), (4, .int v11), (6, .int v8), (0, .ref (α.1 1))]) hx hb dX12_itemCell_90 hl (k := 4) rfl (by rw [ev16]; rfl) (by decide) rfl (fun ls hl => ?_)
          refine lv_goto (tgt := 16) hx hb dX12_itemCell_93 (by decide) ?_
          exact ih16 σ9 v15 v11 v16 hF H locs ls hP hS (lv_sub hl [4, 1, 2, 0] rfl)
        · replace hF := hF.2 h13
          refine lv_aload_n hx hb dX12_itemCell_59 rfl (lv_at hl 2 rfl) ?_
          refine lv_iload hx hb dX12_itemCell_60 (lv_at hl 1 rfl) ?_
          refine va_put (D := D) (ci := 12) (v := .int v8) (ty := .int) (C := RX12) (T := TX12) (N := 42) hx hb hts in_X12 tyX12 tyX12_ok nmX12 hown hK hP (hD.to (sm_wM_m _ _)) hS 1 (sm_gX12 σ9 α) rfl 40 (by decide) k_3 (fun _ h9 => h9) rfl (by decide +kernel) rfl rfl (Nat.le_of_ble_eq_true rfl) dX12_itemCell_62 (fun H locs hP _ hS => ?_)
          rw [sm_iM26] at hP
          obtain ⟨σ17, eσ17⟩ : ∃ x : sm_S, x = sm_i σ9 26 v8 := ⟨_, rfl⟩
          replace hF := hF σ17 eσ17
          rw [← eσ17] at hP
          refine lv_aload_n hx hb dX12_itemCell_65 rfl (lv_at hl 2 rfl) ?_
          refine lv_iload hx hb dX12_itemCell_66 (lv_at hl 4 rfl) ?_
          refine lv_iconst (v := 1) hx hb dX12_itemCell_68 (by decide) ?_
          refine lv_icmp_ne (tgt := 76) hx hb dX12_itemCell_69 (by decide) (fun h18 => ?_) (fun h18 => ?_)
          · replace hF := hF.1 h18
            refine lv_iconst (v := 0) hx hb dX12_itemCell_76 (by decide) ?_
            exact B77 (mp_X12_itemCell_16 K n16) ih16 σ17 0 hF H locs ls hP hS (lv_sub hl [] rfl)
          · replace hF := hF.2 h18
            refine lv_iconst (v := 1) hx hb dX12_itemCell_72 (by decide) ?_
            refine lv_goto (tgt := 77) hx hb dX12_itemCell_73 (by decide) ?_
            exact B77 (mp_X12_itemCell_16 K n16) ih16 σ17 1 hF H locs ls hP hS (lv_sub hl [] rfl)
  unfold mp_X12_itemCell at hF
  revert hP hS
  generalize hLo : ([] : List Loc) = locs
  suffices h9 : ∀ (H : Heap) (locs : List Loc), va_P D vwCl (sm_wM σ α) H → va_S A s.heap H locs → W p l e (headSpec wp_X12_itemCell { frames := 1, cells := 0, slots := 0, locals := 20 }).room s m ([.ref (α.1 1), .int p1, .int p2] : List Value).toArray below meth c H locs 0 0 (MQ below (va_Qi K (sm_B sm_wM D α) A) ([.ref (α.1 1), .int p1, .int p2] : List Value).toArray s 0 0 A) (F0 m 0 ls []) from fun hP hS => h9 s.heap locs hP hS
  intro H locs hP hS
  refine lv_iload_n hx hb dX12_itemCell_0 rfl (lv_at hl 1 rfl) ?_
  refine lv_istore_n (lv' := [(3, .int p1), (0, .ref (α.1 1)), (1, .int p1), (2, .int p2)]) hx hb dX12_itemCell_1 rfl hl (by decide) rfl (fun ls hl => ?_)
  refine lv_iload_n hx hb dX12_itemCell_2 rfl (lv_at hl 3 rfl) ?_
  refine lv_istore (lv' := [(4, .int p2), (3, .int p1), (0, .ref (α.1 1)), (1, .int p1), (2, .int p2)]) hx hb dX12_itemCell_3 hl (by decide) rfl (fun ls hl => ?_)
  refine lv_aload_n hx hb dX12_itemCell_5 rfl (lv_at hl 2 rfl) ?_
  refine va_get (D := D) (ci := 12) (v := .ref (α.1 26)) (C := RX12) (T := TX12) (N := 42) hx hb hts in_X12 hown hK hP 1 (sm_gX12 σ α) rfl 9 (by decide) k_4 (fun _ h9 => h9) rfl dX12_itemCell_6 ?_
  refine lv_iload_n hx hb dX12_itemCell_9 rfl (lv_at hl 3 rfl) ?_
  obtain ⟨h21, hF⟩ := hF
  refine va_iald (n := (σ.2.2.1 26)) (f := (σ.2.2.2.1 26)) hx hb hK hP 26 24 (sm_aM26 σ α) (sm_yM26 α) h21 dX12_itemCell_10 ?_
  refine sm_si (As := [.int ((σ.2.2.2.1 26) p1.toNatClampNeg)]) (rest := []) hP hK hD hE hS hA ⟨hx, hb, hml, hown, hts⟩ hl.1 (c_X12_deep l D H.size t0 σ α ((σ.2.2.2.1 26) p1.toNatClampNeg) _ hF) (va_cwS 1 hts wg_X12_itemCell_X12_deep_391 rfl rfl rfl (by decide +kernel) ⟨Nat.le_of_ble_eq_true rfl, Nat.le_of_ble_eq_true rfl⟩) rfl rfl (Nat.le_of_ble_eq_true rfl) dX12_itemCell_11 ⟨Nat.zero_le _, Nat.zero_le _⟩ (fun r23 σ22 H locs hF hP hS => ?_)
  refine lv_istore (lv' := [(5, .int r23), (4, .int p2), (3, .int p1), (0, .ref (α.1 1)), (1, .int p1), (2, .int p2)]) hx hb dX12_itemCell_14 hl (by decide) rfl (fun ls hl => ?_)
  obtain ⟨n16, hF⟩ := hF
  exact B16 n16 σ22 p1 p2 r23 hF H locs ls hP hS (lv_sub hl [3, 2, 1, 0] rfl)
