theorem dX2_at_0 : decode cX2_at 0 = .ok (.iload_n 1, 1) := by decide +kernel
theorem dX2_at_1 : decode cX2_at 1 = .ok (.ifCond .lt 24, 3) := by decide +kernel
theorem dX2_at_4 : decode cX2_at 4 = .ok (.iload_n 1, 1) := by decide +kernel
theorem dX2_at_5 : decode cX2_at 5 = .ok (.aload_n 0, 1) := by decide +kernel
theorem dX2_at_6 : decode cX2_at 6 = .ok (.getfield 43, 3) := by decide +kernel
theorem dX2_at_9 : decode cX2_at 9 = .ok (.if_icmp .ge 16, 3) := by decide +kernel
theorem dX2_at_12 : decode cX2_at 12 = .ok (.aload_n 0, 1) := by decide +kernel
theorem dX2_at_13 : decode cX2_at 13 = .ok (.getfield 25, 3) := by decide +kernel
theorem dX2_at_16 : decode cX2_at 16 = .ok (.iload_n 1, 1) := by decide +kernel
theorem dX2_at_17 : decode cX2_at 17 = .ok (.baload, 1) := by decide +kernel
theorem dX2_at_18 : decode cX2_at 18 = .ok (.sipush 255, 3) := by decide +kernel
theorem dX2_at_21 : decode cX2_at 21 = .ok (.iand, 1) := by decide +kernel
theorem dX2_at_22 : decode cX2_at 22 = .ok (.goto 4, 3) := by decide +kernel
theorem dX2_at_25 : decode cX2_at 25 = .ok (.iconst (-1), 1) := by decide +kernel
theorem dX2_at_26 : decode cX2_at 26 = .ok (.ireturn, 1) := by decide +kernel
def wp_X2_at : List Cond := .code yX2_at cX2_at 2 (some .int) :: ([.fieldLink RX2 43 "SteadyMachine$Image" "size" "I", .fieldLink RX2 25 "SteadyMachine$Image" "bytes" "[B"] ++ wsX20)
theorem wq_X2_at : wp_X2_at.all goodWord = true := wa_c rfl (wa_a (by decide +kernel) uq_X2)
theorem wt_X2_at : GoodIn lw_tbl wp_X2_at := wm_c (List.mem_of_getElem? (i := 656) (by decide +kernel)) rfl (wm_a (goodIn_r _ [312, 307] (by decide +kernel) (by decide +kernel)) ut_X2)
theorem wi_X2_at_X2 : ∀ w ∈ wsX20, w ∈ wp_X2_at := fun w h => List.mem_cons_of_mem _ (List.mem_append_right _ h)
set_option maxHeartbeats 4000000 in
set_option maxRecDepth 100000 in
theorem c_X2_at (l : Launch) (D : va_G) (sz t0 : Nat) (σ : sm_S) (α : sm_A) (p1 : Int32) (K : Int32 → sm_S → Prop) (hF : mp_X2_at σ p1 K) : Met l yX2_at wp_X2_at { frames := 0, cells := 0, slots := 0, locals := 0 } (sm_P sm_wX sm_tX 37 D sz t0 σ α [.ref (α.1 2), .int p1]) (va_Qi K (sm_B sm_wX D α) (sm_a α 37 sz)) 0 0 (sm_a α 37 sz) := by
  refine Met.ofW (cc := cX2_at) (maxL := 2) (ret := (some .int)) (by decide) rfl ?_
  intro p e s m args below meth c s₁ B hml hv
  obtain ⟨rfl, hsz, hP, hK, hD0, hE⟩ := hv
  have hx := B.exec
  have hb := B.bytes
  have hr := B.returns
  have hts := atoms_spec (ws := wp_X2_at) B.pre
  have hown : s.vm.findClass RX2 = some m.cls := findClass_of_methodNamed B.named
  have hlocks := B.notSynchronized
  subst hsz
  have hD : sm_D (sm_a α 37 s.heap.size) α 37 := hD0.own
  have hA : ∀ q : Nat, s.heap.size ≤ q → sm_a α 37 s.heap.size q := fun q h => Or.inr h
  generalize hAe : sm_a α 37 s.heap.size = A at hD hA hE ⊢
  have hS : va_S A s.heap s.heap [] := va_S.rf
  have in_X2 : ∀ w ∈ wsX20, w ∈ wp_X2_at := wi_X2_at_X2
  have k_0 := hts (.fieldLink RX2 43 "SteadyMachine$Image" "size" "I") (by decide +kernel)
  have k_1 := hts (.fieldLink RX2 25 "SteadyMachine$Image" "bytes" "[B") (by decide +kernel)
  have hl := lv_entry ([.ref (α.1 2), .int p1]) (n := 2) (Nat.le_of_ble_eq_true rfl)
  rw [lg_entry_eq]
  generalize (lg_sl ([.ref (α.1 2), .int p1]) ++ List.replicate (2 - (lg_sl ([.ref (α.1 2), .int p1])).length) Slot.unset).toArray = ls at hl ⊢
  have hl : lv_has ls 2 [(0, .ref (α.1 2)), (1, .int p1)] := hl
  have B26 : ∀ (σ : sm_S) (y0 : Int32), mp_X2_at_26 K σ y0 → sm_J p l e (headSpec wp_X2_at { frames := 0, cells := 0, slots := 0, locals := 0 }).room s m ([.ref (α.1 2), .int p1] : List Value).toArray below meth c (MQ below (va_Qi K (sm_B sm_wX D α) A) ([.ref (α.1 2), .int p1] : List Value).toArray s 0 0 A) D A 2 (sm_wX σ α) 26 [] [.int y0] := by
    intro σ y0 hF H locs ls hP hS hl
    unfold mp_X2_at_26 at hF
    exact W.iret (v := y0) hx hb hr (fun t ht hW => ⟨⟨y0, σ, rfl, hF, (by unfold sm_B; rw [ht]; exact hP)⟩, hS.F ht⟩) hS.2.2 dX2_at_26
  have B25 : ∀ (σ : sm_S), mp_X2_at_25 K σ → sm_J p l e (headSpec wp_X2_at { frames := 0, cells := 0, slots := 0, locals := 0 }).room s m ([.ref (α.1 2), .int p1] : List Value).toArray below meth c (MQ below (va_Qi K (sm_B sm_wX D α) A) ([.ref (α.1 2), .int p1] : List Value).toArray s 0 0 A) D A 2 (sm_wX σ α) 25 [] [] := by
    intro σ hF H locs ls hP hS hl
    unfold mp_X2_at_25 at hF
    refine lv_iconst (v := -1) hx hb dX2_at_25 (by decide) ?_
    exact B26 σ (-1) hF H locs ls hP hS (lv_sub hl [] rfl)
  unfold mp_X2_at at hF
  revert hP hS
  generalize hLo : ([] : List Loc) = locs
  suffices h9 : ∀ (H : Heap) (locs : List Loc), va_P D vwCl (sm_wX σ α) H → va_S A s.heap H locs → W p l e (headSpec wp_X2_at { frames := 0, cells := 0, slots := 0, locals := 0 }).room s m ([.ref (α.1 2), .int p1] : List Value).toArray below meth c H locs 0 0 (MQ below (va_Qi K (sm_B sm_wX D α) A) ([.ref (α.1 2), .int p1] : List Value).toArray s 0 0 A) (F0 m 0 ls []) from fun hP hS => h9 s.heap locs hP hS
  intro H locs hP hS
  refine lv_iload_n hx hb dX2_at_0 rfl (lv_at hl 1 rfl) ?_
  refine lv_if_lt (tgt := 25) hx hb dX2_at_1 (by decide) (fun h1 => ?_) (fun h1 => ?_)
  · replace hF := hF.1 h1
    exact B25 σ hF H locs ls hP hS (lv_sub hl [] rfl)
  · replace hF := hF.2 h1
    refine lv_iload_n hx hb dX2_at_4 rfl (lv_at hl 1 rfl) ?_
    refine lv_aload_n hx hb dX2_at_5 rfl (lv_at hl 0 rfl) ?_
    refine va_get (D := D) (ci := 2) (v := .int (σ.1 14)) (C := RX2) (T := TX2) (N := 6) hx hb hts in_X2 hown hK hP 2 (sm_gX2 σ α) rfl 4 (by decide) k_0 (fun _ h9 => h9) rfl dX2_at_6 ?_
    refine lv_icmp_ge (tgt := 25) hx hb dX2_at_9 (by decide) (fun h2 => ?_) (fun h2 => ?_)
    · replace hF := hF.1 h2
      exact B25 σ hF H locs ls hP hS (lv_sub hl [] rfl)
    · replace hF := hF.2 h2
      refine lv_aload_n hx hb dX2_at_12 rfl (lv_at hl 0 rfl) ?_
      refine va_get (D := D) (ci := 2) (v := .ref (α.1 18)) (C := RX2) (T := TX2) (N := 6) hx hb hts in_X2 hown hK hP 2 (sm_gX2 σ α) rfl 2 (by decide) k_1 (fun _ h9 => h9) rfl dX2_at_13 ?_
      refine lv_iload_n hx hb dX2_at_16 rfl (lv_at hl 1 rfl) ?_
      obtain ⟨h3, hF⟩ := hF
      refine va_bald (n := (σ.2.2.1 18)) (f := (σ.2.2.2.1 18)) hx hb hK hP 18 7 (sm_aX18 σ α) (sm_yX18 α) h3 dX2_at_17 ?_
      refine lv_sipush (v := 255) hx hb dX2_at_18 (by decide) ?_
      refine lv_iand hx hb dX2_at_21 ?_
      refine lv_goto (tgt := 26) hx hb dX2_at_22 (by decide) ?_
      exact B26 σ (((σ.2.2.2.1 18) p1.toNatClampNeg) &&& 255) hF H locs ls hP hS (lv_sub hl [] rfl)
theorem dX2_pair_0 : decode cX2_pair 0 = .ok (.iload_n 1, 1) := by decide +kernel
theorem dX2_pair_1 : decode cX2_pair 1 = .ok (.ifCond .lt 42, 3) := by decide +kernel
theorem dX2_pair_4 : decode cX2_pair 4 = .ok (.iload_n 1, 1) := by decide +kernel
theorem dX2_pair_5 : decode cX2_pair 5 = .ok (.iconst 1, 1) := by decide +kernel
theorem dX2_pair_6 : decode cX2_pair 6 = .ok (.iadd, 1) := by decide +kernel
theorem dX2_pair_7 : decode cX2_pair 7 = .ok (.aload_n 0, 1) := by decide +kernel
theorem dX2_pair_8 : decode cX2_pair 8 = .ok (.getfield 43, 3) := by decide +kernel
theorem dX2_pair_11 : decode cX2_pair 11 = .ok (.if_icmp .ge 32, 3) := by decide +kernel
theorem dX2_pair_14 : decode cX2_pair 14 = .ok (.aload_n 0, 1) := by decide +kernel
theorem dX2_pair_15 : decode cX2_pair 15 = .ok (.getfield 25, 3) := by decide +kernel
theorem dX2_pair_18 : decode cX2_pair 18 = .ok (.iload_n 1, 1) := by decide +kernel
theorem dX2_pair_19 : decode cX2_pair 19 = .ok (.baload, 1) := by decide +kernel
theorem dX2_pair_20 : decode cX2_pair 20 = .ok (.sipush 255, 3) := by decide +kernel
theorem dX2_pair_23 : decode cX2_pair 23 = .ok (.iand, 1) := by decide +kernel
theorem dX2_pair_24 : decode cX2_pair 24 = .ok (.bipush 8, 2) := by decide +kernel
theorem dX2_pair_26 : decode cX2_pair 26 = .ok (.ishl, 1) := by decide +kernel
theorem dX2_pair_27 : decode cX2_pair 27 = .ok (.aload_n 0, 1) := by decide +kernel
theorem dX2_pair_28 : decode cX2_pair 28 = .ok (.getfield 25, 3) := by decide +kernel
theorem dX2_pair_31 : decode cX2_pair 31 = .ok (.iload_n 1, 1) := by decide +kernel
theorem dX2_pair_32 : decode cX2_pair 32 = .ok (.iconst 1, 1) := by decide +kernel
theorem dX2_pair_33 : decode cX2_pair 33 = .ok (.iadd, 1) := by decide +kernel
theorem dX2_pair_34 : decode cX2_pair 34 = .ok (.baload, 1) := by decide +kernel
theorem dX2_pair_35 : decode cX2_pair 35 = .ok (.sipush 255, 3) := by decide +kernel
theorem dX2_pair_38 : decode cX2_pair 38 = .ok (.iand, 1) := by decide +kernel
theorem dX2_pair_39 : decode cX2_pair 39 = .ok (.ior, 1) := by decide +kernel
theorem dX2_pair_40 : decode cX2_pair 40 = .ok (.goto 4, 3) := by decide +kernel
theorem dX2_pair_43 : decode cX2_pair 43 = .ok (.iconst (-1), 1) := by decide +kernel
theorem dX2_pair_44 : decode cX2_pair 44 = .ok (.ireturn, 1) := by decide +kernel
def wp_X2_pair : List Cond := .code yX2_pair cX2_pair 2 (some .int) :: ([.fieldLink RX2 43 "SteadyMachine$Image" "size" "I", .fieldLink RX2 25 "SteadyMachine$Image" "bytes" "[B"] ++ wsX20)
theorem wq_X2_pair : wp_X2_pair.all goodWord = true := wa_c rfl (wa_a (by decide +kernel) uq_X2)
theorem wt_X2_pair : GoodIn lw_tbl wp_X2_pair := wm_c (List.mem_of_getElem? (i := 732) (by decide +kernel)) rfl (wm_a (goodIn_r _ [312, 307] (by decide +kernel) (by decide +kernel)) ut_X2)
theorem wi_X2_pair_X2 : ∀ w ∈ wsX20, w ∈ wp_X2_pair := fun w h => List.mem_cons_of_mem _ (List.mem_append_right _ h)
set_option maxHeartbeats 4000000 in
set_option maxRecDepth 100000 in
theorem c_X2_pair (l : Launch) (D : va_G) (sz t0 : Nat) (σ : sm_S) (α : sm_A) (p1 : Int32) (K : Int32 → sm_S → Prop) (hF : mp_X2_pair σ p1 K) : Met l yX2_pair wp_X2_pair { frames := 0, cells := 0, slots := 0, locals := 0 } (sm_P sm_wX sm_tX 37 D sz t0 σ α [.ref (α.1 2), .int p1]) (va_Qi K (sm_B sm_wX D α) (sm_a α 37 sz)) 0 0 (sm_a α 37 sz) := by
  refine Met.ofW (cc := cX2_pair) (maxL := 2) (ret := (some .int)) (by decide) rfl ?_
  intro p e s m args below meth c s₁ B hml hv
  obtain ⟨rfl, hsz, hP, hK, hD0, hE⟩ := hv
  have hx := B.exec
  have hb := B.bytes
  have hr := B.returns
  have hts := atoms_spec (ws := wp_X2_pair) B.pre
  have hown : s.vm.findClass RX2 = some m.cls := findClass_of_methodNamed B.named
  have hlocks := B.notSynchronized
  subst hsz
  have hD : sm_D (sm_a α 37 s.heap.size) α 37 := hD0.own
  have hA : ∀ q : Nat, s.heap.size ≤ q → sm_a α 37 s.heap.size q := fun q h => Or.inr h
  generalize hAe : sm_a α 37 s.heap.size = A at hD hA hE ⊢
  have hS : va_S A s.heap s.heap [] := va_S.rf
  have in_X2 : ∀ w ∈ wsX20, w ∈ wp_X2_pair := wi_X2_pair_X2
  have k_0 := hts (.fieldLink RX2 43 "SteadyMachine$Image" "size" "I") (by decide +kernel)
  have k_1 := hts (.fieldLink RX2 25 "SteadyMachine$Image" "bytes" "[B") (by decide +kernel)
  have hl := lv_entry ([.ref (α.1 2), .int p1]) (n := 2) (Nat.le_of_ble_eq_true rfl)
  rw [lg_entry_eq]
  generalize (lg_sl ([.ref (α.1 2), .int p1]) ++ List.replicate (2 - (lg_sl ([.ref (α.1 2), .int p1])).length) Slot.unset).toArray = ls at hl ⊢
  have hl : lv_has ls 2 [(0, .ref (α.1 2)), (1, .int p1)] := hl
  have B44 : ∀ (σ : sm_S) (y0 : Int32), mp_X2_pair_44 K σ y0 → sm_J p l e (headSpec wp_X2_pair { frames := 0, cells := 0, slots := 0, locals := 0 }).room s m ([.ref (α.1 2), .int p1] : List Value).toArray below meth c (MQ below (va_Qi K (sm_B sm_wX D α) A) ([.ref (α.1 2), .int p1] : List Value).toArray s 0 0 A) D A 2 (sm_wX σ α) 44 [] [.int y0] := by
    intro σ y0 hF H locs ls hP hS hl
    unfold mp_X2_pair_44 at hF
    exact W.iret (v := y0) hx hb hr (fun t ht hW => ⟨⟨y0, σ, rfl, hF, (by unfold sm_B; rw [ht]; exact hP)⟩, hS.F ht⟩) hS.2.2 dX2_pair_44
  have B43 : ∀ (σ : sm_S), mp_X2_pair_43 K σ → sm_J p l e (headSpec wp_X2_pair { frames := 0, cells := 0, slots := 0, locals := 0 }).room s m ([.ref (α.1 2), .int p1] : List Value).toArray below meth c (MQ below (va_Qi K (sm_B sm_wX D α) A) ([.ref (α.1 2), .int p1] : List Value).toArray s 0 0 A) D A 2 (sm_wX σ α) 43 [] [] := by
    intro σ hF H locs ls hP hS hl
    unfold mp_X2_pair_43 at hF
    refine lv_iconst (v := -1) hx hb dX2_pair_43 (by decide) ?_
    exact B44 σ (-1) hF H locs ls hP hS (lv_sub hl [] rfl)
  unfold mp_X2_pair at hF
  revert hP hS
  generalize hLo : ([] : List Loc) = locs
  suffices h9 : ∀ (H : Heap) (locs : List Loc), va_P D vwCl (sm_wX σ α) H → va_S A s.heap H locs → W p l e (headSpec wp_X2_pair { frames := 0, cells := 0, slots := 0, locals := 0 }).room s m ([.ref (α.1 2), .int p1] : List Value).toArray below meth c H locs 0 0 (MQ below (va_Qi K (sm_B sm_wX D α) A) ([.ref (α.1 2), .int p1] : List Value).toArray s 0 0 A) (F0 m 0 ls []) from fun hP hS => h9 s.heap locs hP hS
  intro H locs hP hS
  refine lv_iload_n hx hb dX2_pair_0 rfl (lv_at hl 1 rfl) ?_
  refine lv_if_lt (tgt := 43) hx hb dX2_pair_1 (by decide) (fun h1 => ?_) (fun h1 => ?_)
  · replace hF := hF.1 h1
    exact B43 σ hF H locs ls hP hS (lv_sub hl [] rfl)
  · replace hF := hF.2 h1
    refine lv_iload_n hx hb dX2_pair_4 rfl (lv_at hl 1 rfl) ?_
    refine lv_iconst (v := 1) hx hb dX2_pair_5 (by decide) ?_
    refine lv_iadd hx hb dX2_pair_6 ?_
    refine lv_aload_n hx hb dX2_pair_7 rfl (lv_at hl 0 rfl) ?_
    refine va_get (D := D) (ci := 2) (v := .int (σ.1 14)) (C := RX2) (T := TX2) (N := 6) hx hb hts in_X2 hown hK hP 2 (sm_gX2 σ α) rfl 4 (by decide) k_0 (fun _ h9 => h9) rfl dX2_pair_8 ?_
    refine lv_icmp_ge (tgt := 43) hx hb dX2_pair_11 (by decide) (fun h2 => ?_) (fun h2 => ?_)
    · replace hF := hF.1 h2
      exact B43 σ hF H locs ls hP hS (lv_sub hl [] rfl)
    · replace hF := hF.2 h2
      refine lv_aload_n hx hb dX2_pair_14 rfl (lv_at hl 0 rfl) ?_
      refine va_get (D := D) (ci := 2) (v := .ref (α.1 18)) (C := RX2) (T := TX2) (N := 6) hx hb hts in_X2 hown hK hP 2 (sm_gX2 σ α) rfl 2 (by decide) k_1 (fun _ h9 => h9) rfl dX2_pair_15 ?_
      refine lv_iload_n hx hb dX2_pair_18 rfl (lv_at hl 1 rfl) ?_
      obtain ⟨h3, hF⟩ := hF
      refine va_bald (n := (σ.2.2.1 18)) (f := (σ.2.2.2.1 18)) hx hb hK hP 18 7 (sm_aX18 σ α) (sm_yX18 α) h3 dX2_pair_19 ?_
      refine lv_sipush (v := 255) hx hb dX2_pair_20 (by decide) ?_
      refine lv_iand hx hb dX2_pair_23 ?_
      refine lv_bipush (v := 8) hx hb dX2_pair_24 (by decide) ?_
      refine lv_ishl hx hb dX2_pair_26 ?_
      refine lv_aload_n hx hb dX2_pair_27 rfl (lv_at hl 0 rfl) ?_
      refine va_get (D := D) (ci := 2) (v := .ref (α.1 18)) (C := RX2) (T := TX2) (N := 6) hx hb hts in_X2 hown hK hP 2 (sm_gX2 σ α) rfl 2 (by decide) k_1 (fun _ h9 => h9) rfl dX2_pair_28 ?_
      refine lv_iload_n hx hb dX2_pair_31 rfl (lv_at hl 1 rfl) ?_
      refine lv_iconst (v := 1) hx hb dX2_pair_32 (by decide) ?_
      refine lv_iadd hx hb dX2_pair_33 ?_
      obtain ⟨h4, hF⟩ := hF
      refine va_bald (n := (σ.2.2.1 18)) (f := (σ.2.2.2.1 18)) hx hb hK hP 18 7 (sm_aX18 σ α) (sm_yX18 α) h4 dX2_pair_34 ?_
      refine lv_sipush (v := 255) hx hb dX2_pair_35 (by decide) ?_
      refine lv_iand hx hb dX2_pair_38 ?_
      refine lv_ior hx hb dX2_pair_39 ?_
      refine lv_goto (tgt := 44) hx hb dX2_pair_40 (by decide) ?_
      exact B44 σ (((((σ.2.2.2.1 18) p1.toNatClampNeg) &&& 255) <<< (8 &&& 31)) ||| (((σ.2.2.2.1 18) (p1 + 1).toNatClampNeg) &&& 255)) hF H locs ls hP hS (lv_sub hl [] rfl)
theorem dX2_four_0 : decode cX2_four 0 = .ok (.aload_n 0, 1) := by decide +kernel
theorem dX2_four_1 : decode cX2_four 1 = .ok (.iload_n 1, 1) := by decide +kernel
theorem dX2_four_2 : decode cX2_four 2 = .ok (.invokevirtual 50, 3) := by decide +kernel
theorem dX2_four_5 : decode cX2_four 5 = .ok (.bipush 16, 2) := by decide +kernel
theorem dX2_four_7 : decode cX2_four 7 = .ok (.ishl, 1) := by decide +kernel
theorem dX2_four_8 : decode cX2_four 8 = .ok (.aload_n 0, 1) := by decide +kernel
theorem dX2_four_9 : decode cX2_four 9 = .ok (.iload_n 1, 1) := by decide +kernel
theorem dX2_four_10 : decode cX2_four 10 = .ok (.iconst 2, 1) := by decide +kernel
theorem dX2_four_11 : decode cX2_four 11 = .ok (.iadd, 1) := by decide +kernel
theorem dX2_four_12 : decode cX2_four 12 = .ok (.invokevirtual 50, 3) := by decide +kernel
theorem dX2_four_15 : decode cX2_four 15 = .ok (.ior, 1) := by decide +kernel
theorem dX2_four_16 : decode cX2_four 16 = .ok (.ireturn, 1) := by decide +kernel
def wp_X2_four : List Cond := .code yX2_four cX2_four 2 (some .int) :: ([] ++ (wsV RX2 50 RX2 yX2_pair wp_X2_pair))
theorem wq_X2_four : wp_X2_four.all goodWord = true := wa_c rfl (wa_a (by decide +kernel) (wa_V wq_X2_pair))
theorem wt_X2_four : GoodIn lw_tbl wp_X2_four := wm_c (List.mem_of_getElem? (i := 977) (by decide +kernel)) rfl (wm_a (goodIn_r _ [] (by decide +kernel) (by decide +kernel)) (wm_a (goodIn_r _ [978, 730, 731, 137] (by decide +kernel) (by decide +kernel)) wt_X2_pair))
theorem wg_X2_four_X2_pair_50 : GoodIn wp_X2_four (wsV RX2 50 RX2 yX2_pair wp_X2_pair) := goodIn_sub (fun w h => List.mem_cons_of_mem _ (List.mem_append_right _ h)) (wa_V wq_X2_pair)
set_option maxHeartbeats 4000000 in
set_option maxRecDepth 100000 in
theorem c_X2_four (l : Launch) (D : va_G) (sz t0 : Nat) (σ : sm_S) (α : sm_A) (p1 : Int32) (K : Int32 → sm_S → Prop) (hF : mp_X2_four σ p1 K) : Met l yX2_four wp_X2_four { frames := 1, cells := 0, slots := 0, locals := 21 } (sm_P sm_wX sm_tX 37 D sz t0 σ α [.ref (α.1 2), .int p1]) (va_Qi K (sm_B sm_wX D α) (sm_a α 37 sz)) 0 0 (sm_a α 37 sz) := by
  refine Met.ofW (cc := cX2_four) (maxL := 2) (ret := (some .int)) (by decide) rfl ?_
  intro p e s m args below meth c s₁ B hml hv
  obtain ⟨rfl, hsz, hP, hK, hD0, hE⟩ := hv
  have hx := B.exec
  have hb := B.bytes
  have hr := B.returns
  have hts := atoms_spec (ws := wp_X2_four) B.pre
  have hown : s.vm.findClass RX2 = some m.cls := findClass_of_methodNamed B.named
  have hlocks := B.notSynchronized
  subst hsz
  have hD : sm_D (sm_a α 37 s.heap.size) α 37 := hD0.own
  have hA : ∀ q : Nat, s.heap.size ≤ q → sm_a α 37 s.heap.size q := fun q h => Or.inr h
  generalize hAe : sm_a α 37 s.heap.size = A at hD hA hE ⊢
  have hS : va_S A s.heap s.heap [] := va_S.rf
  have hl := lv_entry ([.ref (α.1 2), .int p1]) (n := 2) (Nat.le_of_ble_eq_true rfl)
  rw [lg_entry_eq]
  generalize (lg_sl ([.ref (α.1 2), .int p1]) ++ List.replicate (2 - (lg_sl ([.ref (α.1 2), .int p1])).length) Slot.unset).toArray = ls at hl ⊢
  have hl : lv_has ls 2 [(0, .ref (α.1 2)), (1, .int p1)] := hl
  unfold mp_X2_four at hF
  revert hP hS
  generalize hLo : ([] : List Loc) = locs
  suffices h9 : ∀ (H : Heap) (locs : List Loc), va_P D vwCl (sm_wX σ α) H → va_S A s.heap H locs → W p l e (headSpec wp_X2_four { frames := 1, cells := 0, slots := 0, locals := 21 }).room s m ([.ref (α.1 2), .int p1] : List Value).toArray below meth c H locs 0 0 (MQ below (va_Qi K (sm_B sm_wX D α) A) ([.ref (α.1 2), .int p1] : List Value).toArray s 0 0 A) (F0 m 0 ls []) from fun hP hS => h9 s.heap locs hP hS
  intro H locs hP hS
  refine lv_aload_n hx hb dX2_four_0 rfl (lv_at hl 0 rfl) ?_
  refine lv_iload_n hx hb dX2_four_1 rfl (lv_at hl 1 rfl) ?_
  refine sm_vi (As := [.int p1]) (rest := []) hP hK hD hE hS hA ⟨hx, hb, hml, hown, hts⟩ hl.1 (c_X2_pair l D H.size t0 σ α p1 _ hF) (cwV 1 hts wg_X2_four_X2_pair_50 rfl rfl rfl (by decide +kernel) ⟨Nat.le_of_ble_eq_true rfl, Nat.le_of_ble_eq_true rfl⟩) (va_recv hK hP (ci := 2) (q0 := 2) rfl (sm_gX2 σ α)) rfl rfl (Nat.le_of_ble_eq_true rfl) dX2_four_2 ⟨Nat.zero_le _, Nat.zero_le _⟩ (fun r2 σ1 H locs hF hP hS => ?_)
  refine lv_bipush (v := 16) hx hb dX2_four_5 (by decide) ?_
  refine lv_ishl hx hb dX2_four_7 ?_
  refine lv_aload_n hx hb dX2_four_8 rfl (lv_at hl 0 rfl) ?_
  refine lv_iload_n hx hb dX2_four_9 rfl (lv_at hl 1 rfl) ?_
  refine lv_iconst (v := 2) hx hb dX2_four_10 (by decide) ?_
  refine lv_iadd hx hb dX2_four_11 ?_
  refine sm_vi (As := [.int (p1 + 2)]) (rest := [.int (r2 <<< (16 &&& 31))]) hP hK hD hE hS hA ⟨hx, hb, hml, hown, hts⟩ hl.1 (c_X2_pair l D H.size t0 σ1 α (p1 + 2) _ hF) (cwV 1 hts wg_X2_four_X2_pair_50 rfl rfl rfl (by decide +kernel) ⟨Nat.le_of_ble_eq_true rfl, Nat.le_of_ble_eq_true rfl⟩) (va_recv hK hP (ci := 2) (q0 := 2) rfl (sm_gX2 σ1 α)) rfl rfl (Nat.le_of_ble_eq_true rfl) dX2_four_12 ⟨Nat.zero_le _, Nat.zero_le _⟩ (fun r4 σ3 H locs hF hP hS => ?_)
  refine lv_ior hx hb dX2_four_15 ?_
  exact W.iret (v := ((r2 <<< (16 &&& 31)) ||| r4)) hx hb hr (fun t ht hW => ⟨⟨((r2 <<< (16 &&& 31)) ||| r4), σ3, rfl, hF, (by unfold sm_B; rw [ht]; exact hP)⟩, hS.F ht⟩) hS.2.2 dX2_four_16
theorem dX2_beginsAt_0 : decode cX2_beginsAt 0 = .ok (.iload_n 2, 1) := by decide +kernel
theorem dX2_beginsAt_1 : decode cX2_beginsAt 1 = .ok (.ifCond .lt 39, 3) := by decide +kernel
theorem dX2_beginsAt_4 : decode cX2_beginsAt 4 = .ok (.iload_n 2, 1) := by decide +kernel
theorem dX2_beginsAt_5 : decode cX2_beginsAt 5 = .ok (.aload_n 0, 1) := by decide +kernel
theorem dX2_beginsAt_6 : decode cX2_beginsAt 6 = .ok (.getfield 21, 3) := by decide +kernel
theorem dX2_beginsAt_9 : decode cX2_beginsAt 9 = .ok (.getfield 54, 3) := by decide +kernel
theorem dX2_beginsAt_12 : decode cX2_beginsAt 12 = .ok (.iload_n 1, 1) := by decide +kernel
theorem dX2_beginsAt_13 : decode cX2_beginsAt 13 = .ok (.iaload, 1) := by decide +kernel
theorem dX2_beginsAt_14 : decode cX2_beginsAt 14 = .ok (.if_icmp .ge 26, 3) := by decide +kernel
theorem dX2_beginsAt_17 : decode cX2_beginsAt 17 = .ok (.aload_n 0, 1) := by decide +kernel
theorem dX2_beginsAt_18 : decode cX2_beginsAt 18 = .ok (.getfield 29, 3) := by decide +kernel
theorem dX2_beginsAt_21 : decode cX2_beginsAt 21 = .ok (.aload_n 0, 1) := by decide +kernel
theorem dX2_beginsAt_22 : decode cX2_beginsAt 22 = .ok (.getfield 21, 3) := by decide +kernel
theorem dX2_beginsAt_25 : decode cX2_beginsAt 25 = .ok (.getfield 58, 3) := by decide +kernel
theorem dX2_beginsAt_28 : decode cX2_beginsAt 28 = .ok (.iload_n 1, 1) := by decide +kernel
theorem dX2_beginsAt_29 : decode cX2_beginsAt 29 = .ok (.iaload, 1) := by decide +kernel
theorem dX2_beginsAt_30 : decode cX2_beginsAt 30 = .ok (.iload_n 2, 1) := by decide +kernel
theorem dX2_beginsAt_31 : decode cX2_beginsAt 31 = .ok (.iadd, 1) := by decide +kernel
theorem dX2_beginsAt_32 : decode cX2_beginsAt 32 = .ok (.baload, 1) := by decide +kernel
theorem dX2_beginsAt_33 : decode cX2_beginsAt 33 = .ok (.ifCond .eq 7, 3) := by decide +kernel
theorem dX2_beginsAt_36 : decode cX2_beginsAt 36 = .ok (.iconst 1, 1) := by decide +kernel
theorem dX2_beginsAt_37 : decode cX2_beginsAt 37 = .ok (.goto 4, 3) := by decide +kernel
theorem dX2_beginsAt_40 : decode cX2_beginsAt 40 = .ok (.iconst 0, 1) := by decide +kernel
theorem dX2_beginsAt_41 : decode cX2_beginsAt 41 = .ok (.ireturn, 1) := by decide +kernel
def wp_X2_beginsAt : List Cond := .code yX2_beginsAt cX2_beginsAt 3 (some .boolean) :: (([.fieldLink RX2 21 "SteadyMachine$Image" "methods" "LSteadyMachine$Methods;", .fieldLink RX2 54 "SteadyMachine$Methods" "length" "[I", .fieldLink RX2 29 "SteadyMachine$Image" "begins" "[Z", .fieldLink RX2 58 "SteadyMachine$Methods" "code" "[I"] ++ wsX20) ++ wsX40)
theorem wq_X2_beginsAt : wp_X2_beginsAt.all goodWord = true := wa_c rfl (wa_a (wa_a (by decide +kernel) uq_X2) uq_X4)
theorem wt_X2_beginsAt : GoodIn lw_tbl wp_X2_beginsAt := wm_c (List.mem_of_getElem? (i := 736) (by decide +kernel)) rfl (wm_a (wm_a (goodIn_r _ [304, 256, 308, 251] (by decide +kernel) (by decide +kernel)) ut_X2) ut_X4)
theorem wi_X2_beginsAt_X2 : ∀ w ∈ wsX20, w ∈ wp_X2_beginsAt := fun w h => List.mem_cons_of_mem _ (List.mem_append_left _ (List.mem_append_right _ h))
theorem wi_X2_beginsAt_X4 : ∀ w ∈ wsX40, w ∈ wp_X2_beginsAt := fun w h => List.mem_cons_of_mem _ (List.mem_append_right _ h)
set_option maxHeartbeats 4000000 in
set_option maxRecDepth 100000 in
theorem c_X2_beginsAt (l : Launch) (D : va_G) (sz t0 : Nat) (σ : sm_S) (α : sm_A) (p1 : Int32) (p2 : Int32) (K : Int32 → sm_S → Prop) (hF : mp_X2_beginsAt σ p1 p2 K) : Met l yX2_beginsAt wp_X2_beginsAt { frames := 0, cells := 0, slots := 0, locals := 0 } (sm_P sm_wX sm_tX 37 D sz t0 σ α [.ref (α.1 2), .int p1, .int p2]) (va_Qi K (sm_B sm_wX D α) (sm_a α 37 sz)) 0 0 (sm_a α 37 sz) := by
  refine Met.ofW (cc := cX2_beginsAt) (maxL := 3) (ret := (some .boolean)) (by decide) rfl ?_
  intro p e s m args below meth c s₁ B hml hv
  obtain ⟨rfl, hsz, hP, hK, hD0, hE⟩ := hv
  have hx := B.exec
  have hb := B.bytes
  have hr := B.returns
  have hts := atoms_spec (ws := wp_X2_beginsAt) B.pre
  have hown : s.vm.findClass RX2 = some m.cls := findClass_of_methodNamed B.named
  have hlocks := B.notSynchronized
  subst hsz
  have hD : sm_D (sm_a α 37 s.heap.size) α 37 := hD0.own
  have hA : ∀ q : Nat, s.heap.size ≤ q → sm_a α 37 s.heap.size q := fun q h => Or.inr h
  generalize hAe : sm_a α 37 s.heap.size = A at hD hA hE ⊢
  have hS : va_S A s.heap s.heap [] := va_S.rf
  have in_X2 : ∀ w ∈ wsX20, w ∈ wp_X2_beginsAt := wi_X2_beginsAt_X2
  have in_X4 : ∀ w ∈ wsX40, w ∈ wp_X2_beginsAt := wi_X2_beginsAt_X4
  have k_0 := hts (.fieldLink RX2 21 "SteadyMachine$Image" "methods" "LSteadyMachine$Methods;") (by decide +kernel)
  have k_1 := hts (.fieldLink RX2 54 "SteadyMachine$Methods" "length" "[I") (by decide +kernel)
  have k_2 := hts (.fieldLink RX2 29 "SteadyMachine$Image" "begins" "[Z") (by decide +kernel)
  have k_3 := hts (.fieldLink RX2 58 "SteadyMachine$Methods" "code" "[I") (by decide +kernel)
  have hl := lv_entry ([.ref (α.1 2), .int p1, .int p2]) (n := 3) (Nat.le_of_ble_eq_true rfl)
  rw [lg_entry_eq]
  generalize (lg_sl ([.ref (α.1 2), .int p1, .int p2]) ++ List.replicate (3 - (lg_sl ([.ref (α.1 2), .int p1, .int p2])).length) Slot.unset).toArray = ls at hl ⊢
  have hl : lv_has ls 3 [(0, .ref (α.1 2)), (1, .int p1), (2, .int p2)] := hl
  have B41 : ∀ (σ : sm_S) (y0 : Int32), mp_X2_beginsAt_41 K σ y0 → sm_J p l e (headSpec wp_X2_beginsAt { frames := 0, cells := 0, slots := 0, locals := 0 }).room s m ([.ref (α.1 2), .int p1, .int p2] : List Value).toArray below meth c (MQ below (va_Qi K (sm_B sm_wX D α) A) ([.ref (α.1 2), .int p1, .int p2] : List Value).toArray s 0 0 A) D A 3 (sm_wX σ α) 41 [] [.int y0] := by
    intro σ y0 hF H locs ls hP hS hl
    unfold mp_X2_beginsAt_41 at hF
    obtain ⟨h1, hF⟩ := hF
    exact W.zret (v := y0) hx hb hr h1.1 (fun t ht hW => ⟨⟨y0, σ, rfl, hF, (by unfold sm_B; rw [ht]; exact hP)⟩, hS.F ht⟩) hS.2.2 dX2_beginsAt_41
  have B40 : ∀ (σ : sm_S), mp_X2_beginsAt_40 K σ → sm_J p l e (headSpec wp_X2_beginsAt { frames := 0, cells := 0, slots := 0, locals := 0 }).room s m ([.ref (α.1 2), .int p1, .int p2] : List Value).toArray below meth c (MQ below (va_Qi K (sm_B sm_wX D α) A) ([.ref (α.1 2), .int p1, .int p2] : List Value).toArray s 0 0 A) D A 3 (sm_wX σ α) 40 [] [] := by
    intro σ hF H locs ls hP hS hl
    unfold mp_X2_beginsAt_40 at hF
    refine lv_iconst (v := 0) hx hb dX2_beginsAt_40 (by decide) ?_
    exact B41 σ 0 hF H locs ls hP hS (lv_sub hl [] rfl)
  unfold mp_X2_beginsAt at hF
  revert hP hS
  generalize hLo : ([] : List Loc) = locs
  suffices h9 : ∀ (H : Heap) (locs : List Loc), va_P D vwCl (sm_wX σ α) H → va_S A s.heap H locs → W p l e (headSpec wp_X2_beginsAt { frames := 0, cells := 0, slots := 0, locals := 0 }).room s m ([.ref (α.1 2), .int p1, .int p2] : List Value).toArray below meth c H locs 0 0 (MQ below (va_Qi K (sm_B sm_wX D α) A) ([.ref (α.1 2), .int p1, .int p2] : List Value).toArray s 0 0 A) (F0 m 0 ls []) from fun hP hS => h9 s.heap locs hP hS
  intro H locs hP hS
  refine lv_iload_n hx hb dX2_beginsAt_0 rfl (lv_at hl 2 rfl) ?_
  refine lv_if_lt (tgt := 40) hx hb dX2_beginsAt_1 (by decide) (fun h2 => ?_) (fun h2 => ?_)
  · replace hF := hF.1 h2
    exact B40 σ hF H locs ls hP hS (lv_sub hl [] rfl)
  · replace hF := hF.2 h2
    refine lv_iload_n hx hb dX2_beginsAt_4 rfl (lv_at hl 2 rfl) ?_
    refine lv_aload_n hx hb dX2_beginsAt_5 rfl (lv_at hl 0 rfl) ?_
    refine va_get (D := D) (ci := 2) (v := .ref (α.1 4)) (C := RX2) (T := TX2) (N := 6) hx hb hts in_X2 hown hK hP 2 (sm_gX2 σ α) rfl 1 (by decide) k_0 (fun _ h9 => h9) rfl dX2_beginsAt_6 ?_
    refine va_get (D := D) (ci := 4) (v := .ref (α.1 27)) (C := RX4) (T := TX4) (N := 12) hx hb hts in_X4 hown hK hP 4 (sm_gX4 σ α) rfl 9 (by decide) k_1 (fun _ h9 => h9) rfl dX2_beginsAt_9 ?_
    refine lv_iload_n hx hb dX2_beginsAt_12 rfl (lv_at hl 1 rfl) ?_
    obtain ⟨h3, hF⟩ := hF
    refine va_iald (n := (σ.2.2.1 27)) (f := (σ.2.2.2.1 27)) hx hb hK hP 27 16 (sm_aX27 σ α) (sm_yX27 α) h3 dX2_beginsAt_13 ?_
    refine lv_icmp_ge (tgt := 40) hx hb dX2_beginsAt_14 (by decide) (fun h4 => ?_) (fun h4 => ?_)
    · replace hF := hF.1 h4
      exact B40 σ hF H locs ls hP hS (lv_sub hl [] rfl)
    · replace hF := hF.2 h4
      refine lv_aload_n hx hb dX2_beginsAt_17 rfl (lv_at hl 0 rfl) ?_
      refine va_get (D := D) (ci := 2) (v := .ref (α.1 19)) (C := RX2) (T := TX2) (N := 6) hx hb hts in_X2 hown hK hP 2 (sm_gX2 σ α) rfl 3 (by decide) k_2 (fun _ h9 => h9) rfl dX2_beginsAt_18 ?_
      refine lv_aload_n hx hb dX2_beginsAt_21 rfl (lv_at hl 0 rfl) ?_
      refine va_get (D := D) (ci := 2) (v := .ref (α.1 4)) (C := RX2) (T := TX2) (N := 6) hx hb hts in_X2 hown hK hP 2 (sm_gX2 σ α) rfl 1 (by decide) k_0 (fun _ h9 => h9) rfl dX2_beginsAt_22 ?_
      refine va_get (D := D) (ci := 4) (v := .ref (α.1 26)) (C := RX4) (T := TX4) (N := 12) hx hb hts in_X4 hown hK hP 4 (sm_gX4 σ α) rfl 8 (by decide) k_3 (fun _ h9 => h9) rfl dX2_beginsAt_25 ?_
      refine lv_iload_n hx hb dX2_beginsAt_28 rfl (lv_at hl 1 rfl) ?_
      obtain ⟨h5, hF⟩ := hF
      refine va_iald (n := (σ.2.2.1 26)) (f := (σ.2.2.2.1 26)) hx hb hK hP 26 15 (sm_aX26 σ α) (sm_yX26 α) h5 dX2_beginsAt_29 ?_
      refine lv_iload_n hx hb dX2_beginsAt_30 rfl (lv_at hl 2 rfl) ?_
      refine lv_iadd hx hb dX2_beginsAt_31 ?_
      obtain ⟨h6, hF⟩ := hF
      refine va_zald (n := (σ.2.2.1 19)) (f := (σ.2.2.2.1 19)) hx hb hK hP 19 8 (sm_aX19 σ α) (sm_yX19 α) h6 dX2_beginsAt_32 ?_
      refine lv_if_eq (tgt := 40) hx hb dX2_beginsAt_33 (by decide) (fun h7 => ?_) (fun h7 => ?_)
      · replace hF := hF.1 h7
        exact B40 σ hF H locs ls hP hS (lv_sub hl [] rfl)
      · replace hF := hF.2 h7
        refine lv_iconst (v := 1) hx hb dX2_beginsAt_36 (by decide) ?_
        refine lv_goto (tgt := 41) hx hb dX2_beginsAt_37 (by decide) ?_
        exact B41 σ 1 hF H locs ls hP hS (lv_sub hl [] rfl)
theorem dX2_jumpPlace_0 : decode cX2_jumpPlace 0 = .ok (.aload_n 0, 1) := by decide +kernel
theorem dX2_jumpPlace_1 : decode cX2_jumpPlace 1 = .ok (.iload_n 1, 1) := by decide +kernel
theorem dX2_jumpPlace_2 : decode cX2_jumpPlace 2 = .ok (.invokevirtual 61, 3) := by decide +kernel
theorem dX2_jumpPlace_5 : decode cX2_jumpPlace 5 = .ok (.istore_n 2, 1) := by decide +kernel
theorem dX2_jumpPlace_6 : decode cX2_jumpPlace 6 = .ok (.iload_n 2, 1) := by decide +kernel
theorem dX2_jumpPlace_7 : decode cX2_jumpPlace 7 = .ok (.bipush 19, 2) := by decide +kernel
theorem dX2_jumpPlace_9 : decode cX2_jumpPlace 9 = .ok (.if_icmp .lt 9, 3) := by decide +kernel
theorem dX2_jumpPlace_12 : decode cX2_jumpPlace 12 = .ok (.iload_n 2, 1) := by decide +kernel
theorem dX2_jumpPlace_13 : decode cX2_jumpPlace 13 = .ok (.bipush 25, 2) := by decide +kernel
theorem dX2_jumpPlace_15 : decode cX2_jumpPlace 15 = .ok (.if_icmp .le 5, 3) := by decide +kernel
theorem dX2_jumpPlace_18 : decode cX2_jumpPlace 18 = .ok (.iconst (-1), 1) := by decide +kernel
theorem dX2_jumpPlace_19 : decode cX2_jumpPlace 19 = .ok (.ireturn, 1) := by decide +kernel
theorem dX2_jumpPlace_20 : decode cX2_jumpPlace 20 = .ok (.iload_n 2, 1) := by decide +kernel
theorem dX2_jumpPlace_21 : decode cX2_jumpPlace 21 = .ok (.bipush 19, 2) := by decide +kernel
theorem dX2_jumpPlace_23 : decode cX2_jumpPlace 23 = .ok (.if_icmp .eq 9, 3) := by decide +kernel
theorem dX2_jumpPlace_26 : decode cX2_jumpPlace 26 = .ok (.iload_n 2, 1) := by decide +kernel
theorem dX2_jumpPlace_27 : decode cX2_jumpPlace 27 = .ok (.bipush 20, 2) := by decide +kernel
theorem dX2_jumpPlace_29 : decode cX2_jumpPlace 29 = .ok (.if_icmp .ne 9, 3) := by decide +kernel
theorem dX2_jumpPlace_32 : decode cX2_jumpPlace 32 = .ok (.iload_n 1, 1) := by decide +kernel
theorem dX2_jumpPlace_33 : decode cX2_jumpPlace 33 = .ok (.iconst 2, 1) := by decide +kernel
theorem dX2_jumpPlace_34 : decode cX2_jumpPlace 34 = .ok (.iadd, 1) := by decide +kernel
theorem dX2_jumpPlace_35 : decode cX2_jumpPlace 35 = .ok (.goto 6, 3) := by decide +kernel
theorem dX2_jumpPlace_38 : decode cX2_jumpPlace 38 = .ok (.iload_n 1, 1) := by decide +kernel
theorem dX2_jumpPlace_39 : decode cX2_jumpPlace 39 = .ok (.iconst 1, 1) := by decide +kernel
theorem dX2_jumpPlace_40 : decode cX2_jumpPlace 40 = .ok (.iadd, 1) := by decide +kernel
theorem dX2_jumpPlace_41 : decode cX2_jumpPlace 41 = .ok (.ireturn, 1) := by decide +kernel
def wp_X2_jumpPlace : List Cond := .code yX2_jumpPlace cX2_jumpPlace 3 (some .int) :: ([] ++ (wsV RX2 61 RX2 yX2_at wp_X2_at))
theorem wq_X2_jumpPlace : wp_X2_jumpPlace.all goodWord = true := wa_c rfl (wa_a (by decide +kernel) (wa_V wq_X2_at))
theorem wt_X2_jumpPlace : GoodIn lw_tbl wp_X2_jumpPlace := wm_c (List.mem_of_getElem? (i := 727) (by decide +kernel)) rfl (wm_a (goodIn_r _ [] (by decide +kernel) (by decide +kernel)) (wm_a (goodIn_r _ [728, 654, 655, 137] (by decide +kernel) (by decide +kernel)) wt_X2_at))
theorem wg_X2_jumpPlace_X2_at_61 : GoodIn wp_X2_jumpPlace (wsV RX2 61 RX2 yX2_at wp_X2_at) := goodIn_sub (fun w h => List.mem_cons_of_mem _ (List.mem_append_right _ h)) (wa_V wq_X2_at)
set_option maxHeartbeats 4000000 in
set_option maxRecDepth 100000 in
theorem c_X2_jumpPlace (l : Launch) (D : va_G) (sz t0 : Nat) (σ : sm_S) (α : sm_A) (p1 : Int32) (K : Int32 → sm_S → Prop) (hF : mp_X2_jumpPlace σ p1 K) : Met l yX2_jumpPlace wp_X2_jumpPlace { frames := 1, cells := 0, slots := 0, locals := 21 } (sm_P sm_wX sm_tX 37 D sz t0 σ α [.ref (α.1 2), .int p1]) (va_Qi K (sm_B sm_wX D α) (sm_a α 37 sz)) 0 0 (sm_a α 37 sz) := by
  refine Met.ofW (cc := cX2_jumpPlace) (maxL := 3) (ret := (some .int)) (by decide) rfl ?_
  intro p e s m args below meth c s₁ B hml hv
  obtain ⟨rfl, hsz, hP, hK, hD0, hE⟩ := hv
  have hx := B.exec
  have hb := B.bytes
  have hr := B.returns
  have hts := atoms_spec (ws := wp_X2_jumpPlace) B.pre
  have hown : s.vm.findClass RX2 = some m.cls := findClass_of_methodNamed B.named
  have hlocks := B.notSynchronized
  subst hsz
  have hD : sm_D (sm_a α 37 s.heap.size) α 37 := hD0.own
  have hA : ∀ q : Nat, s.heap.size ≤ q → sm_a α 37 s.heap.size q := fun q h => Or.inr h
  generalize hAe : sm_a α 37 s.heap.size = A at hD hA hE ⊢
  have hS : va_S A s.heap s.heap [] := va_S.rf
  have hl := lv_entry ([.ref (α.1 2), .int p1]) (n := 3) (Nat.le_of_ble_eq_true rfl)
  rw [lg_entry_eq]
  generalize (lg_sl ([.ref (α.1 2), .int p1]) ++ List.replicate (3 - (lg_sl ([.ref (α.1 2), .int p1])).length) Slot.unset).toArray = ls at hl ⊢
  have hl : lv_has ls 3 [(0, .ref (α.1 2)), (1, .int p1)] := hl
  have B41 : ∀ (σ : sm_S) (y0 : Int32), mp_X2_jumpPlace_41 K σ y0 → sm_J p l e (headSpec wp_X2_jumpPlace { frames := 1, cells := 0, slots := 0, locals := 21 }).room s m ([.ref (α.1 2), .int p1] : List Value).toArray below meth c (MQ below (va_Qi K (sm_B sm_wX D α) A) ([.ref (α.1 2), .int p1] : List Value).toArray s 0 0 A) D A 3 (sm_wX σ α) 41 [] [.int y0] := by
    intro σ y0 hF H locs ls hP hS hl
    unfold mp_X2_jumpPlace_41 at hF
    exact W.iret (v := y0) hx hb hr (fun t ht hW => ⟨⟨y0, σ, rfl, hF, (by unfold sm_B; rw [ht]; exact hP)⟩, hS.F ht⟩) hS.2.2 dX2_jumpPlace_41
  have B32 : ∀ (σ : sm_S) (x1 : Int32), mp_X2_jumpPlace_32 K σ x1 → sm_J p l e (headSpec wp_X2_jumpPlace { frames := 1, cells := 0, slots := 0, locals := 21 }).room s m ([.ref (α.1 2), .int p1] : List Value).toArray below meth c (MQ below (va_Qi K (sm_B sm_wX D α) A) ([.ref (α.1 2), .int p1] : List Value).toArray s 0 0 A) D A 3 (sm_wX σ α) 32 [(1, .int x1)] [] := by
    intro σ x1 hF H locs ls hP hS hl
    unfold mp_X2_jumpPlace_32 at hF
    refine lv_iload_n hx hb dX2_jumpPlace_32 rfl (lv_at hl 0 rfl) ?_
    refine lv_iconst (v := 2) hx hb dX2_jumpPlace_33 (by decide) ?_
    refine lv_iadd hx hb dX2_jumpPlace_34 ?_
    refine lv_goto (tgt := 41) hx hb dX2_jumpPlace_35 (by decide) ?_
    exact B41 σ (x1 + 2) hF H locs ls hP hS (lv_sub hl [] rfl)
  have B18 : ∀ (σ : sm_S), mp_X2_jumpPlace_18 K σ → sm_J p l e (headSpec wp_X2_jumpPlace { frames := 1, cells := 0, slots := 0, locals := 21 }).room s m ([.ref (α.1 2), .int p1] : List Value).toArray below meth c (MQ below (va_Qi K (sm_B sm_wX D α) A) ([.ref (α.1 2), .int p1] : List Value).toArray s 0 0 A) D A 3 (sm_wX σ α) 18 [] [] := by
    intro σ hF H locs ls hP hS hl
    unfold mp_X2_jumpPlace_18 at hF
    refine lv_iconst (v := -1) hx hb dX2_jumpPlace_18 (by decide) ?_
    exact W.iret (v := (-1)) hx hb hr (fun t ht hW => ⟨⟨(-1), σ, rfl, hF, (by unfold sm_B; rw [ht]; exact hP)⟩, hS.F ht⟩) hS.2.2 dX2_jumpPlace_19
  unfold mp_X2_jumpPlace at hF
  revert hP hS
  generalize hLo : ([] : List Loc) = locs
  suffices h9 : ∀ (H : Heap) (locs : List Loc), va_P D vwCl (sm_wX σ α) H → va_S A s.heap H locs → W p l e (headSpec wp_X2_jumpPlace { frames := 1, cells := 0, slots := 0, locals := 21 }).room s m ([.ref (α.1 2), .int p1] : List Value).toArray below meth c H locs 0 0 (MQ below (va_Qi K (sm_B sm_wX D α) A) ([.ref (α.1 2), .int p1] : List Value).toArray s 0 0 A) (F0 m 0 ls []) from fun hP hS => h9 s.heap locs hP hS
  intro H locs hP hS
  refine lv_aload_n hx hb dX2_jumpPlace_0 rfl (lv_at hl 0 rfl) ?_
  refine lv_iload_n hx hb dX2_jumpPlace_1 rfl (lv_at hl 1 rfl) ?_
  refine sm_vi (As := [.int p1]) (rest := []) hP hK hD hE hS hA ⟨hx, hb, hml, hown, hts⟩ hl.1 (c_X2_at l D H.size t0 σ α p1 _ hF) (cwV 1 hts wg_X2_jumpPlace_X2_at_61 rfl rfl rfl (by decide +kernel) ⟨Nat.le_of_ble_eq_true rfl, Nat.le_of_ble_eq_true rfl⟩) (va_recv hK hP (ci := 2) (q0 := 2) rfl (sm_gX2 σ α)) rfl rfl (Nat.le_of_ble_eq_true rfl) dX2_jumpPlace_2 ⟨Nat.zero_le _, Nat.zero_le _⟩ (fun r2 σ1 H locs hF hP hS => ?_)
  refine lv_istore_n (lv' := [(2, .int r2), (0, .ref (α.1 2)), (1, .int p1)]) hx hb dX2_jumpPlace_5 rfl hl (by decide) rfl (fun ls hl => ?_)
  refine lv_iload_n hx hb dX2_jumpPlace_6 rfl (lv_at hl 0 rfl) ?_
  refine lv_bipush (v := 19) hx hb dX2_jumpPlace_7 (by decide) ?_
  refine lv_icmp_lt (tgt := 18) hx hb dX2_jumpPlace_9 (by decide) (fun h3 => ?_) (fun h3 => ?_)
  · replace hF := hF.1 h3
    exact B18 σ1 hF H locs ls hP hS (lv_sub hl [] rfl)
  · replace hF := hF.2 h3
    refine lv_iload_n hx hb dX2_jumpPlace_12 rfl (lv_at hl 0 rfl) ?_
    refine lv_bipush (v := 25) hx hb dX2_jumpPlace_13 (by decide) ?_
    refine lv_icmp_le (tgt := 20) hx hb dX2_jumpPlace_15 (by decide) (fun h4 => ?_) (fun h4 => ?_)
    · replace hF := hF.1 h4
      refine lv_iload_n hx hb dX2_jumpPlace_20 rfl (lv_at hl 0 rfl) ?_
      refine lv_bipush (v := 19) hx hb dX2_jumpPlace_21 (by decide) ?_
      refine lv_icmp_eq (tgt := 32) hx hb dX2_jumpPlace_23 (by decide) (fun h5 => ?_) (fun h5 => ?_)
      · replace hF := hF.1 h5
        exact B32 σ1 p1 hF H locs ls hP hS (lv_sub hl [2] rfl)
      · replace hF := hF.2 h5
        refine lv_iload_n hx hb dX2_jumpPlace_26 rfl (lv_at hl 0 rfl) ?_
        refine lv_bipush (v := 20) hx hb dX2_jumpPlace_27 (by decide) ?_
        refine lv_icmp_ne (tgt := 38) hx hb dX2_jumpPlace_29 (by decide) (fun h6 => ?_) (fun h6 => ?_)
        · replace hF := hF.1 h6
          refine lv_iload_n hx hb dX2_jumpPlace_38 rfl (lv_at hl 2 rfl) ?_
          refine lv_iconst (v := 1) hx hb dX2_jumpPlace_39 (by decide) ?_
          refine lv_iadd hx hb dX2_jumpPlace_40 ?_
          exact B41 σ1 (p1 + 1) hF H locs ls hP hS (lv_sub hl [] rfl)
        · replace hF := hF.2 h6
          exact B32 σ1 p1 hF H locs ls hP hS (lv_sub hl [2] rfl)
    · replace hF := hF.2 h4
      exact B18 σ1 hF H locs ls hP hS (lv_sub hl [] rfl)
theorem dX4_sameButFirst_0 : decode cX4_sameButFirst 0 = .ok (.aload_n 0, 1) := by decide +kernel
theorem dX4_sameButFirst_1 : decode cX4_sameButFirst 1 = .ok (.getfield 15, 3) := by decide +kernel
theorem dX4_sameButFirst_4 : decode cX4_sameButFirst 4 = .ok (.iload_n 1, 1) := by decide +kernel
theorem dX4_sameButFirst_5 : decode cX4_sameButFirst 5 = .ok (.iaload, 1) := by decide +kernel
theorem dX4_sameButFirst_6 : decode cX4_sameButFirst 6 = .ok (.aload_n 0, 1) := by decide +kernel
theorem dX4_sameButFirst_7 : decode cX4_sameButFirst 7 = .ok (.getfield 15, 3) := by decide +kernel
theorem dX4_sameButFirst_10 : decode cX4_sameButFirst 10 = .ok (.iload_n 2, 1) := by decide +kernel
theorem dX4_sameButFirst_11 : decode cX4_sameButFirst 11 = .ok (.iaload, 1) := by decide +kernel
theorem dX4_sameButFirst_12 : decode cX4_sameButFirst 12 = .ok (.if_icmp .ne 18, 3) := by decide +kernel
theorem dX4_sameButFirst_15 : decode cX4_sameButFirst 15 = .ok (.aload_n 0, 1) := by decide +kernel
theorem dX4_sameButFirst_16 : decode cX4_sameButFirst 16 = .ok (.getfield 21, 3) := by decide +kernel
theorem dX4_sameButFirst_19 : decode cX4_sameButFirst 19 = .ok (.iload_n 1, 1) := by decide +kernel
theorem dX4_sameButFirst_20 : decode cX4_sameButFirst 20 = .ok (.iaload, 1) := by decide +kernel
theorem dX4_sameButFirst_21 : decode cX4_sameButFirst 21 = .ok (.aload_n 0, 1) := by decide +kernel
theorem dX4_sameButFirst_22 : decode cX4_sameButFirst 22 = .ok (.getfield 21, 3) := by decide +kernel
theorem dX4_sameButFirst_25 : decode cX4_sameButFirst 25 = .ok (.iload_n 2, 1) := by decide +kernel
theorem dX4_sameButFirst_26 : decode cX4_sameButFirst 26 = .ok (.iaload, 1) := by decide +kernel
theorem dX4_sameButFirst_27 : decode cX4_sameButFirst 27 = .ok (.if_icmp .eq 5, 3) := by decide +kernel
theorem dX4_sameButFirst_30 : decode cX4_sameButFirst 30 = .ok (.iconst 0, 1) := by decide +kernel
theorem dX4_sameButFirst_31 : decode cX4_sameButFirst 31 = .ok (.ireturn, 1) := by decide +kernel
theorem dX4_sameButFirst_32 : decode cX4_sameButFirst 32 = .ok (.iconst 1, 1) := by decide +kernel
theorem dX4_sameButFirst_33 : decode cX4_sameButFirst 33 = .ok (.istore_n 3, 1) := by decide +kernel
theorem dX4_sameButFirst_34 : decode cX4_sameButFirst 34 = .ok (.iload_n 3, 1) := by decide +kernel
theorem dX4_sameButFirst_35 : decode cX4_sameButFirst 35 = .ok (.aload_n 0, 1) := by decide +kernel
theorem dX4_sameButFirst_36 : decode cX4_sameButFirst 36 = .ok (.getfield 15, 3) := by decide +kernel
theorem dX4_sameButFirst_39 : decode cX4_sameButFirst 39 = .ok (.iload_n 1, 1) := by decide +kernel
theorem dX4_sameButFirst_40 : decode cX4_sameButFirst 40 = .ok (.iaload, 1) := by decide +kernel
theorem dX4_sameButFirst_41 : decode cX4_sameButFirst 41 = .ok (.if_icmp .ge 36, 3) := by decide +kernel
theorem dX4_sameButFirst_44 : decode cX4_sameButFirst 44 = .ok (.aload_n 0, 1) := by decide +kernel
theorem dX4_sameButFirst_45 : decode cX4_sameButFirst 45 = .ok (.getfield 18, 3) := by decide +kernel
theorem dX4_sameButFirst_48 : decode cX4_sameButFirst 48 = .ok (.iload_n 1, 1) := by decide +kernel
theorem dX4_sameButFirst_49 : decode cX4_sameButFirst 49 = .ok (.bipush 8, 2) := by decide +kernel
theorem dX4_sameButFirst_51 : decode cX4_sameButFirst 51 = .ok (.imul, 1) := by decide +kernel
theorem dX4_sameButFirst_52 : decode cX4_sameButFirst 52 = .ok (.iload_n 3, 1) := by decide +kernel
theorem dX4_sameButFirst_53 : decode cX4_sameButFirst 53 = .ok (.iadd, 1) := by decide +kernel
theorem dX4_sameButFirst_54 : decode cX4_sameButFirst 54 = .ok (.iaload, 1) := by decide +kernel
theorem dX4_sameButFirst_55 : decode cX4_sameButFirst 55 = .ok (.aload_n 0, 1) := by decide +kernel
theorem dX4_sameButFirst_56 : decode cX4_sameButFirst 56 = .ok (.getfield 18, 3) := by decide +kernel
theorem dX4_sameButFirst_59 : decode cX4_sameButFirst 59 = .ok (.iload_n 2, 1) := by decide +kernel
theorem dX4_sameButFirst_60 : decode cX4_sameButFirst 60 = .ok (.bipush 8, 2) := by decide +kernel
theorem dX4_sameButFirst_62 : decode cX4_sameButFirst 62 = .ok (.imul, 1) := by decide +kernel
theorem dX4_sameButFirst_63 : decode cX4_sameButFirst 63 = .ok (.iload_n 3, 1) := by decide +kernel
theorem dX4_sameButFirst_64 : decode cX4_sameButFirst 64 = .ok (.iadd, 1) := by decide +kernel
theorem dX4_sameButFirst_65 : decode cX4_sameButFirst 65 = .ok (.iaload, 1) := by decide +kernel
theorem dX4_sameButFirst_66 : decode cX4_sameButFirst 66 = .ok (.if_icmp .eq 5, 3) := by decide +kernel
theorem dX4_sameButFirst_69 : decode cX4_sameButFirst 69 = .ok (.iconst 0, 1) := by decide +kernel
theorem dX4_sameButFirst_70 : decode cX4_sameButFirst 70 = .ok (.ireturn, 1) := by decide +kernel
theorem dX4_sameButFirst_71 : decode cX4_sameButFirst 71 = .ok (.iinc 3 1, 3) := by decide +kernel
theorem dX4_sameButFirst_74 : decode cX4_sameButFirst 74 = .ok (.goto (-40), 3) := by decide +kernel
theorem dX4_sameButFirst_77 : decode cX4_sameButFirst 77 = .ok (.iconst 1, 1) := by decide +kernel
theorem dX4_sameButFirst_78 : decode cX4_sameButFirst 78 = .ok (.ireturn, 1) := by decide +kernel
def wp_X4_sameButFirst : List Cond := .code yX4_sameButFirst cX4_sameButFirst 4 (some .boolean) :: ([.fieldLink RX4 15 "SteadyMachine$Methods" "params" "[I", .fieldLink RX4 18 "SteadyMachine$Methods" "paramType" "[I", .fieldLink RX4 21 "SteadyMachine$Methods" "gives" "[I"] ++ wsX40)
theorem wq_X4_sameButFirst : wp_X4_sameButFirst.all goodWord = true := wa_c rfl (wa_a (by decide +kernel) uq_X4)
theorem wt_X4_sameButFirst : GoodIn lw_tbl wp_X4_sameButFirst := wm_c (List.mem_of_getElem? (i := 718) (by decide +kernel)) rfl (wm_a (goodIn_r _ [229, 233, 235] (by decide +kernel) (by decide +kernel)) ut_X4)
theorem wi_X4_sameButFirst_X4 : ∀ w ∈ wsX40, w ∈ wp_X4_sameButFirst := fun w h => List.mem_cons_of_mem _ (List.mem_append_right _ h)
set_option maxHeartbeats 4000000 in
set_option maxRecDepth 100000 in
theorem c_X4_sameButFirst (l : Launch) (D : va_G) (sz t0 : Nat) (σ : sm_S) (α : sm_A) (p1 : Int32) (p2 : Int32) (K : Int32 → sm_S → Prop) (hF : mp_X4_sameButFirst σ p1 p2 K) : Met l yX4_sameButFirst wp_X4_sameButFirst { frames := 0, cells := 0, slots := 0, locals := 0 } (sm_P sm_wX sm_tX 37 D sz t0 σ α [.ref (α.1 4), .int p1, .int p2]) (va_Qi K (sm_B sm_wX D α) (sm_a α 37 sz)) 0 0 (sm_a α 37 sz) := by
  refine Met.ofW (cc := cX4_sameButFirst) (maxL := 4) (ret := (some .boolean)) (by decide) rfl ?_
  intro p e s m args below meth c s₁ B hml hv
  obtain ⟨rfl, hsz, hP, hK, hD0, hE⟩ := hv
  have hx := B.exec
  have hb := B.bytes
  have hr := B.returns
  have hts := atoms_spec (ws := wp_X4_sameButFirst) B.pre
  have hown : s.vm.findClass RX4 = some m.cls := findClass_of_methodNamed B.named
  have hlocks := B.notSynchronized
  subst hsz
  have hD : sm_D (sm_a α 37 s.heap.size) α 37 := hD0.own
  have hA : ∀ q : Nat, s.heap.size ≤ q → sm_a α 37 s.heap.size q := fun q h => Or.inr h
  generalize hAe : sm_a α 37 s.heap.size = A at hD hA hE ⊢
  have hS : va_S A s.heap s.heap [] := va_S.rf
  have in_X4 : ∀ w ∈ wsX40, w ∈ wp_X4_sameButFirst := wi_X4_sameButFirst_X4
  have k_0 := hts (.fieldLink RX4 15 "SteadyMachine$Methods" "params" "[I") (by decide +kernel)
  have k_1 := hts (.fieldLink RX4 18 "SteadyMachine$Methods" "paramType" "[I") (by decide +kernel)
  have k_2 := hts (.fieldLink RX4 21 "SteadyMachine$Methods" "gives" "[I") (by decide +kernel)
  have hl := lv_entry ([.ref (α.1 4), .int p1, .int p2]) (n := 4) (Nat.le_of_ble_eq_true rfl)
  rw [lg_entry_eq]
  generalize (lg_sl ([.ref (α.1 4), .int p1, .int p2]) ++ List.replicate (4 - (lg_sl ([.ref (α.1 4), .int p1, .int p2])).length) Slot.unset).toArray = ls at hl ⊢
  have hl : lv_has ls 4 [(0, .ref (α.1 4)), (1, .int p1), (2, .int p2)] := hl
  have B34 : ∀ (n : Nat) (σ : sm_S) (x1 : Int32) (x2 : Int32) (x3 : Int32), mp_X4_sameButFirst_34 K n σ x1 x2 x3 → sm_J p l e (headSpec wp_X4_sameButFirst { frames := 0, cells := 0, slots := 0, locals := 0 }).room s m ([.ref (α.1 4), .int p1, .int p2] : List Value).toArray below meth c (MQ below (va_Qi K (sm_B sm_wX D α) A) ([.ref (α.1 4), .int p1, .int p2] : List Value).toArray s 0 0 A) D A 4 (sm_wX σ α) 34 [(0, .ref (α.1 4)), (1, .int x1), (2, .int x2), (3, .int x3)] [] := by
    intro n34
    induction n34 with
    | zero =>
      intro σ x1 x2 x3 hF
      exact hF.elim
    | succ n34 ih34 =>
      intro σ x1 x2 x3 hF H locs ls hP hS hl
      unfold mp_X4_sameButFirst_34 at hF
      refine lv_iload_n hx hb dX4_sameButFirst_34 rfl (lv_at hl 3 rfl) ?_
      refine lv_aload_n hx hb dX4_sameButFirst_35 rfl (lv_at hl 0 rfl) ?_
      refine va_get (D := D) (ci := 4) (v := .ref (α.1 21)) (C := RX4) (T := TX4) (N := 12) hx hb hts in_X4 hown hK hP 4 (sm_gX4 σ α) rfl 3 (by decide) k_0 (fun _ h9 => h9) rfl dX4_sameButFirst_36 ?_
      refine lv_iload_n hx hb dX4_sameButFirst_39 rfl (lv_at hl 1 rfl) ?_
      obtain ⟨h1, hF⟩ := hF
      refine va_iald (n := (σ.2.2.1 21)) (f := (σ.2.2.2.1 21)) hx hb hK hP 21 10 (sm_aX21 σ α) (sm_yX21 α) h1 dX4_sameButFirst_40 ?_
      refine lv_icmp_ge (tgt := 77) hx hb dX4_sameButFirst_41 (by decide) (fun h2 => ?_) (fun h2 => ?_)
      · replace hF := hF.1 h2
        refine lv_iconst (v := 1) hx hb dX4_sameButFirst_77 (by decide) ?_
        exact W.zret (v := 1) hx hb hr sm_z1.1 (fun t ht hW => ⟨⟨1, σ, rfl, hF, (by unfold sm_B; rw [ht]; exact hP)⟩, hS.F ht⟩) hS.2.2 dX4_sameButFirst_78
      · replace hF := hF.2 h2
        refine lv_aload_n hx hb dX4_sameButFirst_44 rfl (lv_at hl 0 rfl) ?_
        refine va_get (D := D) (ci := 4) (v := .ref (α.1 22)) (C := RX4) (T := TX4) (N := 12) hx hb hts in_X4 hown hK hP 4 (sm_gX4 σ α) rfl 4 (by decide) k_1 (fun _ h9 => h9) rfl dX4_sameButFirst_45 ?_
        refine lv_iload_n hx hb dX4_sameButFirst_48 rfl (lv_at hl 1 rfl) ?_
        refine lv_bipush (v := 8) hx hb dX4_sameButFirst_49 (by decide) ?_
        refine lv_imul hx hb dX4_sameButFirst_51 ?_
        refine lv_iload_n hx hb dX4_sameButFirst_52 rfl (lv_at hl 3 rfl) ?_
        refine lv_iadd hx hb dX4_sameButFirst_53 ?_
        obtain ⟨h3, hF⟩ := hF
        refine va_iald (n := (σ.2.2.1 22)) (f := (σ.2.2.2.1 22)) hx hb hK hP 22 11 (sm_aX22 σ α) (sm_yX22 α) h3 dX4_sameButFirst_54 ?_
        refine lv_aload_n hx hb dX4_sameButFirst_55 rfl (lv_at hl 0 rfl) ?_
        refine va_get (D := D) (ci := 4) (v := .ref (α.1 22)) (C := RX4) (T := TX4) (N := 12) hx hb hts in_X4 hown hK hP 4 (sm_gX4 σ α) rfl 4 (by decide) k_1 (fun _ h9 => h9) rfl dX4_sameButFirst_56 ?_
        refine lv_iload_n hx hb dX4_sameButFirst_59 rfl (lv_at hl 2 rfl) ?_
        refine lv_bipush (v := 8) hx hb dX4_sameButFirst_60 (by decide) ?_
        refine lv_imul hx hb dX4_sameButFirst_62 ?_
        refine lv_iload_n hx hb dX4_sameButFirst_63 rfl (lv_at hl 3 rfl) ?_
        refine lv_iadd hx hb dX4_sameButFirst_64 ?_
        obtain ⟨h4, hF⟩ := hF
        refine va_iald (n := (σ.2.2.1 22)) (f := (σ.2.2.2.1 22)) hx hb hK hP 22 11 (sm_aX22 σ α) (sm_yX22 α) h4 dX4_sameButFirst_65 ?_
        refine lv_icmp_eq (tgt := 71) hx hb dX4_sameButFirst_66 (by decide) (fun h5 => ?_) (fun h5 => ?_)
        · replace hF := hF.1 h5
          obtain ⟨v6, ev6⟩ : ∃ y : Int32, y = x3 + 1 := ⟨_, rfl⟩
          replace hF := hF v6 ev6
          refine lv_iinc (v := v6) (lv' := [(3, .int v6), (0, .ref (α.1 4)), (1, .int x1), (2, .int x2)]) hx hb dX4_sameButFirst_71 hl (k := 3) rfl (by rw [ev6]; rfl) (by decide) rfl (fun ls hl => ?_)
          refine lv_goto (tgt := 34) hx hb dX4_sameButFirst_74 (by decide) ?_
          exact ih34 σ x1 x2 v6 hF H locs ls hP hS (lv_sub hl [1, 2, 3, 0] rfl)
        · replace hF := hF.2 h5
          refine lv_iconst (v := 0) hx hb dX4_sameButFirst_69 (by decide) ?_
          exact W.zret (v := 0) hx hb hr sm_z0.1 (fun t ht hW => ⟨⟨0, σ, rfl, hF, (by unfold sm_B; rw [ht]; exact hP)⟩, hS.F ht⟩) hS.2.2 dX4_sameButFirst_70
  have B30 : ∀ (σ : sm_S), mp_X4_sameButFirst_30 K σ → sm_J p l e (headSpec wp_X4_sameButFirst { frames := 0, cells := 0, slots := 0, locals := 0 }).room s m ([.ref (α.1 4), .int p1, .int p2] : List Value).toArray below meth c (MQ below (va_Qi K (sm_B sm_wX D α) A) ([.ref (α.1 4), .int p1, .int p2] : List Value).toArray s 0 0 A) D A 4 (sm_wX σ α) 30 [] [] := by
    intro σ hF H locs ls hP hS hl
    unfold mp_X4_sameButFirst_30 at hF
    refine lv_iconst (v := 0) hx hb dX4_sameButFirst_30 (by decide) ?_
    exact W.zret (v := 0) hx hb hr sm_z0.1 (fun t ht hW => ⟨⟨0, σ, rfl, hF, (by unfold sm_B; rw [ht]; exact hP)⟩, hS.F ht⟩) hS.2.2 dX4_sameButFirst_31
  unfold mp_X4_sameButFirst at hF
  revert hP hS
  generalize hLo : ([] : List Loc) = locs
  suffices h9 : ∀ (H : Heap) (locs : List Loc), va_P D vwCl (sm_wX σ α) H → va_S A s.heap H locs → W p l e (headSpec wp_X4_sameButFirst { frames := 0, cells := 0, slots := 0, locals := 0 }).room s m ([.ref (α.1 4), .int p1, .int p2] : List Value).toArray below meth c H locs 0 0 (MQ below (va_Qi K (sm_B sm_wX D α) A) ([.ref (α.1 4), .int p1, .int p2] : List Value).toArray s 0 0 A) (F0 m 0 ls []) from fun hP hS => h9 s.heap locs hP hS
  intro H locs hP hS
  refine lv_aload_n hx hb dX4_sameButFirst_0 rfl (lv_at hl 0 rfl) ?_
  refine va_get (D := D) (ci := 4) (v := .ref (α.1 21)) (C := RX4) (T := TX4) (N := 12) hx hb hts in_X4 hown hK hP 4 (sm_gX4 σ α) rfl 3 (by decide) k_0 (fun _ h9 => h9) rfl dX4_sameButFirst_1 ?_
  refine lv_iload_n hx hb dX4_sameButFirst_4 rfl (lv_at hl 1 rfl) ?_
  obtain ⟨h7, hF⟩ := hF
  refine va_iald (n := (σ.2.2.1 21)) (f := (σ.2.2.2.1 21)) hx hb hK hP 21 10 (sm_aX21 σ α) (sm_yX21 α) h7 dX4_sameButFirst_5 ?_
  refine lv_aload_n hx hb dX4_sameButFirst_6 rfl (lv_at hl 0 rfl) ?_
  refine va_get (D := D) (ci := 4) (v := .ref (α.1 21)) (C := RX4) (T := TX4) (N := 12) hx hb hts in_X4 hown hK hP 4 (sm_gX4 σ α) rfl 3 (by decide) k_0 (fun _ h9 => h9) rfl dX4_sameButFirst_7 ?_
  refine lv_iload_n hx hb dX4_sameButFirst_10 rfl (lv_at hl 2 rfl) ?_
  obtain ⟨h8, hF⟩ := hF
  refine va_iald (n := (σ.2.2.1 21)) (f := (σ.2.2.2.1 21)) hx hb hK hP 21 10 (sm_aX21 σ α) (sm_yX21 α) h8 dX4_sameButFirst_11 ?_
  refine lv_icmp_ne (tgt := 30) hx hb dX4_sameButFirst_12 (by decide) (fun h9 => ?_) (fun h9 => ?_)
  · replace hF := hF.1 h9
    exact B30 σ hF H locs ls hP hS (lv_sub hl [] rfl)
  · replace hF := hF.2 h9
    refine lv_aload_n hx hb dX4_sameButFirst_15 rfl (lv_at hl 0 rfl) ?_
    refine va_get (D := D) (ci := 4) (v := .ref (α.1 23)) (C := RX4) (T := TX4) (N := 12) hx hb hts in_X4 hown hK hP 4 (sm_gX4 σ α) rfl 5 (by decide) k_2 (fun _ h9 => h9) rfl dX4_sameButFirst_16 ?_
    refine lv_iload_n hx hb dX4_sameButFirst_19 rfl (lv_at hl 1 rfl) ?_
    obtain ⟨h10, hF⟩ := hF
    refine va_iald (n := (σ.2.2.1 23)) (f := (σ.2.2.2.1 23)) hx hb hK hP 23 12 (sm_aX23 σ α) (sm_yX23 α) h10 dX4_sameButFirst_20 ?_
    refine lv_aload_n hx hb dX4_sameButFirst_21 rfl (lv_at hl 0 rfl) ?_
    refine va_get (D := D) (ci := 4) (v := .ref (α.1 23)) (C := RX4) (T := TX4) (N := 12) hx hb hts in_X4 hown hK hP 4 (sm_gX4 σ α) rfl 5 (by decide) k_2 (fun _ h9 => h9) rfl dX4_sameButFirst_22 ?_
    refine lv_iload_n hx hb dX4_sameButFirst_25 rfl (lv_at hl 2 rfl) ?_
    obtain ⟨h11, hF⟩ := hF
    refine va_iald (n := (σ.2.2.1 23)) (f := (σ.2.2.2.1 23)) hx hb hK hP 23 12 (sm_aX23 σ α) (sm_yX23 α) h11 dX4_sameButFirst_26 ?_
    refine lv_icmp_eq (tgt := 32) hx hb dX4_sameButFirst_27 (by decide) (fun h12 => ?_) (fun h12 => ?_)
    · replace hF := hF.1 h12
      refine lv_iconst (v := 1) hx hb dX4_sameButFirst_32 (by decide) ?_
      refine lv_istore_n (lv' := [(3, .int 1), (0, .ref (α.1 4)), (1, .int p1), (2, .int p2)]) hx hb dX4_sameButFirst_33 rfl hl (by decide) rfl (fun ls hl => ?_)
      obtain ⟨n34, hF⟩ := hF
      exact B34 n34 σ p1 p2 1 hF H locs ls hP hS (lv_sub hl [1, 2, 3, 0] rfl)
    · replace hF := hF.2 h12
      exact B30 σ hF H locs ls hP hS (lv_sub hl [] rfl)
theorem dX4_addParam_0 : decode cX4_addParam 0 = .ok (.aload_n 0, 1) := by decide +kernel
theorem dX4_addParam_1 : decode cX4_addParam 1 = .ok (.getfield 18, 3) := by decide +kernel
theorem dX4_addParam_4 : decode cX4_addParam 4 = .ok (.iload_n 1, 1) := by decide +kernel
theorem dX4_addParam_5 : decode cX4_addParam 5 = .ok (.bipush 8, 2) := by decide +kernel
theorem dX4_addParam_7 : decode cX4_addParam 7 = .ok (.imul, 1) := by decide +kernel
theorem dX4_addParam_8 : decode cX4_addParam 8 = .ok (.aload_n 0, 1) := by decide +kernel
theorem dX4_addParam_9 : decode cX4_addParam 9 = .ok (.getfield 15, 3) := by decide +kernel
theorem dX4_addParam_12 : decode cX4_addParam 12 = .ok (.iload_n 1, 1) := by decide +kernel
theorem dX4_addParam_13 : decode cX4_addParam 13 = .ok (.iaload, 1) := by decide +kernel
theorem dX4_addParam_14 : decode cX4_addParam 14 = .ok (.iadd, 1) := by decide +kernel
theorem dX4_addParam_15 : decode cX4_addParam 15 = .ok (.iload_n 2, 1) := by decide +kernel
theorem dX4_addParam_16 : decode cX4_addParam 16 = .ok (.iastore, 1) := by decide +kernel
theorem dX4_addParam_17 : decode cX4_addParam 17 = .ok (.aload_n 0, 1) := by decide +kernel
theorem dX4_addParam_18 : decode cX4_addParam 18 = .ok (.getfield 15, 3) := by decide +kernel
theorem dX4_addParam_21 : decode cX4_addParam 21 = .ok (.iload_n 1, 1) := by decide +kernel
theorem dX4_addParam_22 : decode cX4_addParam 22 = .ok (.dup2, 1) := by decide +kernel
theorem dX4_addParam_23 : decode cX4_addParam 23 = .ok (.iaload, 1) := by decide +kernel
theorem dX4_addParam_24 : decode cX4_addParam 24 = .ok (.iconst 1, 1) := by decide +kernel
theorem dX4_addParam_25 : decode cX4_addParam 25 = .ok (.iadd, 1) := by decide +kernel
theorem dX4_addParam_26 : decode cX4_addParam 26 = .ok (.iastore, 1) := by decide +kernel
theorem dX4_addParam_27 : decode cX4_addParam 27 = .ok (.return_, 1) := by decide +kernel
def wp_X4_addParam : List Cond := .code yX4_addParam cX4_addParam 3 none :: ([.fieldLink RX4 18 "SteadyMachine$Methods" "paramType" "[I", .fieldLink RX4 15 "SteadyMachine$Methods" "params" "[I"] ++ wsX40)
theorem wq_X4_addParam : wp_X4_addParam.all goodWord = true := wa_c rfl (wa_a (by decide +kernel) uq_X4)
theorem wt_X4_addParam : GoodIn lw_tbl wp_X4_addParam := wm_c (List.mem_of_getElem? (i := 676) (by decide +kernel)) rfl (wm_a (goodIn_r _ [233, 229] (by decide +kernel) (by decide +kernel)) ut_X4)
theorem wi_X4_addParam_X4 : ∀ w ∈ wsX40, w ∈ wp_X4_addParam := fun w h => List.mem_cons_of_mem _ (List.mem_append_right _ h)
set_option maxHeartbeats 4000000 in
set_option maxRecDepth 100000 in
theorem c_X4_addParam (l : Launch) (D : va_G) (sz t0 : Nat) (σ : sm_S) (α : sm_A) (p1 : Int32) (p2 : Int32) (K : sm_S → Prop) (hF : mp_X4_addParam σ p1 p2 K) : Met l yX4_addParam wp_X4_addParam { frames := 0, cells := 0, slots := 0, locals := 0 } (sm_P sm_wX sm_tX 37 D sz t0 σ α [.ref (α.1 4), .int p1, .int p2]) (va_Qv K (sm_B sm_wX D α) (sm_a α 37 sz)) 0 0 (sm_a α 37 sz) := by
  refine Met.ofW (cc := cX4_addParam) (maxL := 3) (ret := none) (by decide) rfl ?_
  intro p e s m args below meth c s₁ B hml hv
  obtain ⟨rfl, hsz, hP, hK, hD0, hE⟩ := hv
  have hx := B.exec
  have hb := B.bytes
  have hr := B.returns
  have hts := atoms_spec (ws := wp_X4_addParam) B.pre
  have hown : s.vm.findClass RX4 = some m.cls := findClass_of_methodNamed B.named
  have hlocks := B.notSynchronized
  subst hsz
  have hD : sm_D (sm_a α 37 s.heap.size) α 37 := hD0.own
  have hA : ∀ q : Nat, s.heap.size ≤ q → sm_a α 37 s.heap.size q := fun q h => Or.inr h
  generalize hAe : sm_a α 37 s.heap.size = A at hD hA hE ⊢
  have hS : va_S A s.heap s.heap [] := va_S.rf
  have in_X4 : ∀ w ∈ wsX40, w ∈ wp_X4_addParam := wi_X4_addParam_X4
  have k_0 := hts (.fieldLink RX4 18 "SteadyMachine$Methods" "paramType" "[I") (by decide +kernel)
  have k_1 := hts (.fieldLink RX4 15 "SteadyMachine$Methods" "params" "[I") (by decide +kernel)
  have hl := lv_entry ([.ref (α.1 4), .int p1, .int p2]) (n := 3) (Nat.le_of_ble_eq_true rfl)
  rw [lg_entry_eq]
  generalize (lg_sl ([.ref (α.1 4), .int p1, .int p2]) ++ List.replicate (3 - (lg_sl ([.ref (α.1 4), .int p1, .int p2])).length) Slot.unset).toArray = ls at hl ⊢
  have hl : lv_has ls 3 [(0, .ref (α.1 4)), (1, .int p1), (2, .int p2)] := hl
  unfold mp_X4_addParam at hF
  revert hP hS
  generalize hLo : ([] : List Loc) = locs
  suffices h9 : ∀ (H : Heap) (locs : List Loc), va_P D vwCl (sm_wX σ α) H → va_S A s.heap H locs → W p l e (headSpec wp_X4_addParam { frames := 0, cells := 0, slots := 0, locals := 0 }).room s m ([.ref (α.1 4), .int p1, .int p2] : List Value).toArray below meth c H locs 0 0 (MQ below (va_Qv K (sm_B sm_wX D α) A) ([.ref (α.1 4), .int p1, .int p2] : List Value).toArray s 0 0 A) (F0 m 0 ls []) from fun hP hS => h9 s.heap locs hP hS
  intro H locs hP hS
  refine lv_aload_n hx hb dX4_addParam_0 rfl (lv_at hl 0 rfl) ?_
  refine va_get (D := D) (ci := 4) (v := .ref (α.1 22)) (C := RX4) (T := TX4) (N := 12) hx hb hts in_X4 hown hK hP 4 (sm_gX4 σ α) rfl 4 (by decide) k_0 (fun _ h9 => h9) rfl dX4_addParam_1 ?_
  refine lv_iload_n hx hb dX4_addParam_4 rfl (lv_at hl 1 rfl) ?_
  refine lv_bipush (v := 8) hx hb dX4_addParam_5 (by decide) ?_
  refine lv_imul hx hb dX4_addParam_7 ?_
  refine lv_aload_n hx hb dX4_addParam_8 rfl (lv_at hl 0 rfl) ?_
  refine va_get (D := D) (ci := 4) (v := .ref (α.1 21)) (C := RX4) (T := TX4) (N := 12) hx hb hts in_X4 hown hK hP 4 (sm_gX4 σ α) rfl 3 (by decide) k_1 (fun _ h9 => h9) rfl dX4_addParam_9 ?_
  refine lv_iload_n hx hb dX4_addParam_12 rfl (lv_at hl 1 rfl) ?_
  obtain ⟨h1, hF⟩ := hF
  refine va_iald (n := (σ.2.2.1 21)) (f := (σ.2.2.2.1 21)) hx hb hK hP 21 10 (sm_aX21 σ α) (sm_yX21 α) h1 dX4_addParam_13 ?_
  refine lv_iadd hx hb dX4_addParam_14 ?_
  refine lv_iload_n hx hb dX4_addParam_15 rfl (lv_at hl 2 rfl) ?_
  obtain ⟨h2, hF⟩ := hF
  refine va_iast (n := (σ.2.2.1 22)) (f := (σ.2.2.2.1 22)) (x := p2) hx hb hK hP (hD.to (sm_wX_m _ _)) hS 22 11 (sm_aX22 σ α) (sm_yX22 α) h2 dX4_addParam_16 (fun H locs hP _ hS => ?_)
  rw [sm_rX22] at hP
  obtain ⟨σ3, eσ3⟩ : ∃ x : sm_S, x = sm_r σ 22 (upd (σ.2.2.2.1 22) ((p1 * 8) + ((σ.2.2.2.1 21) p1.toNatClampNeg)).toNatClampNeg p2) := ⟨_, rfl⟩
  replace hF := hF σ3 eσ3
  rw [← eσ3] at hP
  refine lv_aload_n hx hb dX4_addParam_17 rfl (lv_at hl 0 rfl) ?_
  refine va_get (D := D) (ci := 4) (v := .ref (α.1 21)) (C := RX4) (T := TX4) (N := 12) hx hb hts in_X4 hown hK hP 4 (sm_gX4 σ3 α) rfl 3 (by decide) k_1 (fun _ h9 => h9) rfl dX4_addParam_18 ?_
  refine lv_iload_n hx hb dX4_addParam_21 rfl (lv_at hl 1 rfl) ?_
  refine lv_dup2_11 hx hb dX4_addParam_22 rfl rfl ?_
  obtain ⟨h4, hF⟩ := hF
  refine va_iald (n := (σ3.2.2.1 21)) (f := (σ3.2.2.2.1 21)) hx hb hK hP 21 10 (sm_aX21 σ3 α) (sm_yX21 α) h4 dX4_addParam_23 ?_
  refine lv_iconst (v := 1) hx hb dX4_addParam_24 (by decide) ?_
  refine lv_iadd hx hb dX4_addParam_25 ?_
  obtain ⟨h5, hF⟩ := hF
  refine va_iast (n := (σ3.2.2.1 21)) (f := (σ3.2.2.2.1 21)) (x := (((σ3.2.2.2.1 21) p1.toNatClampNeg) + 1)) hx hb hK hP (hD.to (sm_wX_m _ _)) hS 21 10 (sm_aX21 σ3 α) (sm_yX21 α) h5 dX4_addParam_26 (fun H locs hP _ hS => ?_)
  rw [sm_rX21] at hP
  obtain ⟨σ6, eσ6⟩ : ∃ x : sm_S, x = sm_r σ3 21 (upd (σ3.2.2.2.1 21) p1.toNatClampNeg (((σ3.2.2.2.1 21) p1.toNatClampNeg) + 1)) := ⟨_, rfl⟩
  replace hF := hF σ6 eσ6
  rw [← eσ6] at hP
  exact W.vret hx hb hr (fun t ht hW => ⟨⟨σ6, rfl, hF, (by unfold sm_B; rw [ht]; exact hP)⟩, hS.F ht⟩) hS.2.2 dX4_addParam_27
theorem dX3_inCode_0 : decode cX3_inCode 0 = .ok (.aload_n 0, 1) := by decide +kernel
theorem dX3_inCode_1 : decode cX3_inCode 1 = .ok (.getfield 26, 3) := by decide +kernel
theorem dX3_inCode_4 : decode cX3_inCode 4 = .ok (.getfield 67, 3) := by decide +kernel
theorem dX3_inCode_7 : decode cX3_inCode 7 = .ok (.iload_n 1, 1) := by decide +kernel
theorem dX3_inCode_8 : decode cX3_inCode 8 = .ok (.iaload, 1) := by decide +kernel
theorem dX3_inCode_9 : decode cX3_inCode 9 = .ok (.aload_n 0, 1) := by decide +kernel
theorem dX3_inCode_10 : decode cX3_inCode 10 = .ok (.getfield 26, 3) := by decide +kernel
theorem dX3_inCode_13 : decode cX3_inCode 13 = .ok (.getfield 70, 3) := by decide +kernel
theorem dX3_inCode_16 : decode cX3_inCode 16 = .ok (.iload_n 1, 1) := by decide +kernel
theorem dX3_inCode_17 : decode cX3_inCode 17 = .ok (.iaload, 1) := by decide +kernel
theorem dX3_inCode_18 : decode cX3_inCode 18 = .ok (.iadd, 1) := by decide +kernel
theorem dX3_inCode_19 : decode cX3_inCode 19 = .ok (.istore_n 2, 1) := by decide +kernel
theorem dX3_inCode_20 : decode cX3_inCode 20 = .ok (.aload_n 0, 1) := by decide +kernel
theorem dX3_inCode_21 : decode cX3_inCode 21 = .ok (.getfield 26, 3) := by decide +kernel
theorem dX3_inCode_24 : decode cX3_inCode 24 = .ok (.getfield 67, 3) := by decide +kernel
theorem dX3_inCode_27 : decode cX3_inCode 27 = .ok (.iload_n 1, 1) := by decide +kernel
theorem dX3_inCode_28 : decode cX3_inCode 28 = .ok (.iaload, 1) := by decide +kernel
theorem dX3_inCode_29 : decode cX3_inCode 29 = .ok (.istore_n 3, 1) := by decide +kernel
theorem dX3_inCode_30 : decode cX3_inCode 30 = .ok (.iload_n 3, 1) := by decide +kernel
theorem dX3_inCode_31 : decode cX3_inCode 31 = .ok (.iload_n 2, 1) := by decide +kernel
theorem dX3_inCode_32 : decode cX3_inCode 32 = .ok (.if_icmp .ge 97, 3) := by decide +kernel
theorem dX3_inCode_35 : decode cX3_inCode 35 = .ok (.aload_n 0, 1) := by decide +kernel
theorem dX3_inCode_36 : decode cX3_inCode 36 = .ok (.getfield 9, 3) := by decide +kernel
theorem dX3_inCode_39 : decode cX3_inCode 39 = .ok (.getfield 73, 3) := by decide +kernel
theorem dX3_inCode_42 : decode cX3_inCode 42 = .ok (.iload_n 3, 1) := by decide +kernel
theorem dX3_inCode_43 : decode cX3_inCode 43 = .ok (.baload, 1) := by decide +kernel
theorem dX3_inCode_44 : decode cX3_inCode 44 = .ok (.ifCond .eq 79, 3) := by decide +kernel
theorem dX3_inCode_47 : decode cX3_inCode 47 = .ok (.aload_n 0, 1) := by decide +kernel
theorem dX3_inCode_48 : decode cX3_inCode 48 = .ok (.getfield 9, 3) := by decide +kernel
theorem dX3_inCode_51 : decode cX3_inCode 51 = .ok (.iload_n 3, 1) := by decide +kernel
theorem dX3_inCode_52 : decode cX3_inCode 52 = .ok (.invokevirtual 77, 3) := by decide +kernel
theorem dX3_inCode_55 : decode cX3_inCode 55 = .ok (.bipush 35, 2) := by decide +kernel
theorem dX3_inCode_57 : decode cX3_inCode 57 = .ok (.if_icmp .ne 27, 3) := by decide +kernel
theorem dX3_inCode_60 : decode cX3_inCode 60 = .ok (.aload_n 0, 1) := by decide +kernel
theorem dX3_inCode_61 : decode cX3_inCode 61 = .ok (.getfield 9, 3) := by decide +kernel
theorem dX3_inCode_64 : decode cX3_inCode 64 = .ok (.iload_n 3, 1) := by decide +kernel
theorem dX3_inCode_65 : decode cX3_inCode 65 = .ok (.iconst 1, 1) := by decide +kernel
theorem dX3_inCode_66 : decode cX3_inCode 66 = .ok (.iadd, 1) := by decide +kernel
theorem dX3_inCode_67 : decode cX3_inCode 67 = .ok (.invokevirtual 77, 3) := by decide +kernel
theorem dX3_inCode_70 : decode cX3_inCode 70 = .ok (.aload_n 0, 1) := by decide +kernel
theorem dX3_inCode_71 : decode cX3_inCode 71 = .ok (.getfield 26, 3) := by decide +kernel
theorem dX3_inCode_74 : decode cX3_inCode 74 = .ok (.getfield 31, 3) := by decide +kernel
theorem dX3_inCode_77 : decode cX3_inCode 77 = .ok (.if_icmp .lt 7, 3) := by decide +kernel
theorem dX3_inCode_80 : decode cX3_inCode 80 = .ok (.iload_n 3, 1) := by decide +kernel
theorem dX3_inCode_81 : decode cX3_inCode 81 = .ok (.iconst 1, 1) := by decide +kernel
theorem dX3_inCode_82 : decode cX3_inCode 82 = .ok (.iadd, 1) := by decide +kernel
theorem dX3_inCode_83 : decode cX3_inCode 83 = .ok (.ireturn, 1) := by decide +kernel
theorem dX3_inCode_84 : decode cX3_inCode 84 = .ok (.aload_n 0, 1) := by decide +kernel
theorem dX3_inCode_85 : decode cX3_inCode 85 = .ok (.getfield 9, 3) := by decide +kernel
theorem dX3_inCode_88 : decode cX3_inCode 88 = .ok (.iload_n 3, 1) := by decide +kernel
theorem dX3_inCode_89 : decode cX3_inCode 89 = .ok (.invokevirtual 80, 3) := by decide +kernel
theorem dX3_inCode_92 : decode cX3_inCode 92 = .ok (.istore 4, 2) := by decide +kernel
theorem dX3_inCode_94 : decode cX3_inCode 94 = .ok (.iload 4, 2) := by decide +kernel
theorem dX3_inCode_96 : decode cX3_inCode 96 = .ok (.iconst (-1), 1) := by decide +kernel
theorem dX3_inCode_97 : decode cX3_inCode 97 = .ok (.if_icmp .eq 26, 3) := by decide +kernel
theorem dX3_inCode_100 : decode cX3_inCode 100 = .ok (.aload_n 0, 1) := by decide +kernel
theorem dX3_inCode_101 : decode cX3_inCode 101 = .ok (.getfield 9, 3) := by decide +kernel
theorem dX3_inCode_104 : decode cX3_inCode 104 = .ok (.iload_n 1, 1) := by decide +kernel
theorem dX3_inCode_105 : decode cX3_inCode 105 = .ok (.aload_n 0, 1) := by decide +kernel
theorem dX3_inCode_106 : decode cX3_inCode 106 = .ok (.getfield 9, 3) := by decide +kernel
theorem dX3_inCode_109 : decode cX3_inCode 109 = .ok (.iload 4, 2) := by decide +kernel
theorem dX3_inCode_111 : decode cX3_inCode 111 = .ok (.invokevirtual 83, 3) := by decide +kernel
theorem dX3_inCode_114 : decode cX3_inCode 114 = .ok (.invokevirtual 86, 3) := by decide +kernel
theorem dX3_inCode_117 : decode cX3_inCode 117 = .ok (.ifCond .ne 6, 3) := by decide +kernel
theorem dX3_inCode_120 : decode cX3_inCode 120 = .ok (.iload 4, 2) := by decide +kernel
theorem dX3_inCode_122 : decode cX3_inCode 122 = .ok (.ireturn, 1) := by decide +kernel
theorem dX3_inCode_123 : decode cX3_inCode 123 = .ok (.iinc 3 1, 3) := by decide +kernel
theorem dX3_inCode_126 : decode cX3_inCode 126 = .ok (.goto (-96), 3) := by decide +kernel
theorem dX3_inCode_129 : decode cX3_inCode 129 = .ok (.iconst (-1), 1) := by decide +kernel
theorem dX3_inCode_130 : decode cX3_inCode 130 = .ok (.ireturn, 1) := by decide +kernel
def wp_X3_inCode : List Cond := .code yX3_inCode cX3_inCode 5 (some .int) :: ((((((([.fieldLink RX3 9 "SteadyMachine$Linker" "image" "LSteadyMachine$Image;", .fieldLink RX3 73 "SteadyMachine$Image" "begins" "[Z", .fieldLink RX3 26 "SteadyMachine$Linker" "methods" "LSteadyMachine$Methods;", .fieldLink RX3 31 "SteadyMachine$Methods" "many" "I", .fieldLink RX3 67 "SteadyMachine$Methods" "code" "[I", .fieldLink RX3 70 "SteadyMachine$Methods" "length" "[I"] ++ (wsV RX3 80 RX2 yX2_jumpPlace wp_X2_jumpPlace)) ++ (wsV RX3 83 RX2 yX2_pair wp_X2_pair)) ++ (wsV RX3 86 RX2 yX2_beginsAt wp_X2_beginsAt)) ++ (wsV RX3 77 RX2 yX2_at wp_X2_at)) ++ wsX20) ++ wsX30) ++ wsX40)
theorem wq_X3_inCode : wp_X3_inCode.all goodWord = true := wa_c rfl (wa_a (wa_a (wa_a (wa_a (wa_a (wa_a (wa_a (by decide +kernel) (wa_V wq_X2_jumpPlace)) (wa_V wq_X2_pair)) (wa_V wq_X2_beginsAt)) (wa_V wq_X2_at)) uq_X2) uq_X3) uq_X4)
theorem wt_X3_inCode : GoodIn lw_tbl wp_X3_inCode := wm_c (List.mem_of_getElem? (i := 722) (by decide +kernel)) rfl (wm_a (wm_a (wm_a (wm_a (wm_a (wm_a (wm_a (goodIn_r _ [359, 309, 361, 220, 249, 254] (by decide +kernel) (by decide +kernel)) (wm_a (goodIn_r _ [724, 725, 726, 137] (by decide +kernel) (by decide +kernel)) wt_X2_jumpPlace)) (wm_a (goodIn_r _ [729, 730, 731, 137] (by decide +kernel) (by decide +kernel)) wt_X2_pair)) (wm_a (goodIn_r _ [733, 734, 735, 137] (by decide +kernel) (by decide +kernel)) wt_X2_beginsAt)) (wm_a (goodIn_r _ [723, 654, 655, 137] (by decide +kernel) (by decide +kernel)) wt_X2_at)) ut_X2) ut_X3) ut_X4)
theorem wg_X3_inCode_X2_jumpPlace_80 : GoodIn wp_X3_inCode (wsV RX3 80 RX2 yX2_jumpPlace wp_X2_jumpPlace) := goodIn_sub (fun w h => List.mem_cons_of_mem _ (List.mem_append_left _ (List.mem_append_left _ (List.mem_append_left _ (List.mem_append_left _ (List.mem_append_left _ (List.mem_append_left _ (List.mem_append_right _ h)))))))) (wa_V wq_X2_jumpPlace)
theorem wg_X3_inCode_X2_pair_83 : GoodIn wp_X3_inCode (wsV RX3 83 RX2 yX2_pair wp_X2_pair) := goodIn_sub (fun w h => List.mem_cons_of_mem _ (List.mem_append_left _ (List.mem_append_left _ (List.mem_append_left _ (List.mem_append_left _ (List.mem_append_left _ (List.mem_append_right _ h))))))) (wa_V wq_X2_pair)
theorem wg_X3_inCode_X2_beginsAt_86 : GoodIn wp_X3_inCode (wsV RX3 86 RX2 yX2_beginsAt wp_X2_beginsAt) := goodIn_sub (fun w h => List.mem_cons_of_mem _ (List.mem_append_left _ (List.mem_append_left _ (List.mem_append_left _ (List.mem_append_left _ (List.mem_append_right _ h)))))) (wa_V wq_X2_beginsAt)
theorem wg_X3_inCode_X2_at_77 : GoodIn wp_X3_inCode (wsV RX3 77 RX2 yX2_at wp_X2_at) := goodIn_sub (fun w h => List.mem_cons_of_mem _ (List.mem_append_left _ (List.mem_append_left _ (List.mem_append_left _ (List.mem_append_right _ h))))) (wa_V wq_X2_at)
theorem wi_X3_inCode_X2 : ∀ w ∈ wsX20, w ∈ wp_X3_inCode := fun w h => List.mem_cons_of_mem _ (List.mem_append_left _ (List.mem_append_left _ (List.mem_append_right _ h)))
theorem wi_X3_inCode_X3 : ∀ w ∈ wsX30, w ∈ wp_X3_inCode := fun w h => List.mem_cons_of_mem _ (List.mem_append_left _ (List.mem_append_right _ h))
theorem wi_X3_inCode_X4 : ∀ w ∈ wsX40, w ∈ wp_X3_inCode := fun w h => List.mem_cons_of_mem _ (List.mem_append_right _ h)
set_option maxHeartbeats 4000000 in
set_option maxRecDepth 100000 in
theorem c_X3_inCode (l : Launch) (D : va_G) (sz t0 : Nat) (σ : sm_S) (α : sm_A) (p1 : Int32) (K : Int32 → sm_S → Prop) (hF : mp_X3_inCode σ p1 K) : Met l yX3_inCode wp_X3_inCode { frames := 2, cells := 0, slots := 0, locals := 43 } (sm_P sm_wX sm_tX 37 D sz t0 σ α [.ref (α.1 3), .int p1]) (va_Qi K (sm_B sm_wX D α) (sm_a α 37 sz)) 0 0 (sm_a α 37 sz) := by
  refine Met.ofW (cc := cX3_inCode) (maxL := 5) (ret := (some .int)) (by decide) rfl ?_
  intro p e s m args below meth c s₁ B hml hv
  obtain ⟨rfl, hsz, hP, hK, hD0, hE⟩ := hv
  have hx := B.exec
  have hb := B.bytes
  have hr := B.returns
  have hts := atoms_spec (ws := wp_X3_inCode) B.pre
  have hown : s.vm.findClass RX3 = some m.cls := findClass_of_methodNamed B.named
  have hlocks := B.notSynchronized
  subst hsz
  have hD : sm_D (sm_a α 37 s.heap.size) α 37 := hD0.own
  have hA : ∀ q : Nat, s.heap.size ≤ q → sm_a α 37 s.heap.size q := fun q h => Or.inr h
  generalize hAe : sm_a α 37 s.heap.size = A at hD hA hE ⊢
  have hS : va_S A s.heap s.heap [] := va_S.rf
  have in_X2 : ∀ w ∈ wsX20, w ∈ wp_X3_inCode := wi_X3_inCode_X2
  have in_X3 : ∀ w ∈ wsX30, w ∈ wp_X3_inCode := wi_X3_inCode_X3
  have in_X4 : ∀ w ∈ wsX40, w ∈ wp_X3_inCode := wi_X3_inCode_X4
  have k_0 := hts (.fieldLink RX3 9 "SteadyMachine$Linker" "image" "LSteadyMachine$Image;") (by decide +kernel)
  have k_1 := hts (.fieldLink RX3 73 "SteadyMachine$Image" "begins" "[Z") (by decide +kernel)
  have k_2 := hts (.fieldLink RX3 26 "SteadyMachine$Linker" "methods" "LSteadyMachine$Methods;") (by decide +kernel)
  have k_3 := hts (.fieldLink RX3 31 "SteadyMachine$Methods" "many" "I") (by decide +kernel)
  have k_4 := hts (.fieldLink RX3 67 "SteadyMachine$Methods" "code" "[I") (by decide +kernel)
  have k_5 := hts (.fieldLink RX3 70 "SteadyMachine$Methods" "length" "[I") (by decide +kernel)
  have hl := lv_entry ([.ref (α.1 3), .int p1]) (n := 5) (Nat.le_of_ble_eq_true rfl)
  rw [lg_entry_eq]
  generalize (lg_sl ([.ref (α.1 3), .int p1]) ++ List.replicate (5 - (lg_sl ([.ref (α.1 3), .int p1])).length) Slot.unset).toArray = ls at hl ⊢
  have hl : lv_has ls 5 [(0, .ref (α.1 3)), (1, .int p1)] := hl
  have B123 : ∀ (L30 : sm_S → Int32 → Int32 → Int32 → Prop) (hL30 : ∀ (σ : sm_S) (x1 : Int32) (x2 : Int32) (x3 : Int32), L30 σ x1 x2 x3 → sm_J p l e (headSpec wp_X3_inCode { frames := 2, cells := 0, slots := 0, locals := 43 }).room s m ([.ref (α.1 3), .int p1] : List Value).toArray below meth c (MQ below (va_Qi K (sm_B sm_wX D α) A) ([.ref (α.1 3), .int p1] : List Value).toArray s 0 0 A) D A 5 (sm_wX σ α) 30 [(0, .ref (α.1 3)), (1, .int x1), (2, .int x2), (3, .int x3)] []) (σ : sm_S) (x1 : Int32) (x2 : Int32) (x3 : Int32), mp_X3_inCode_123 L30 K σ x1 x2 x3 → sm_J p l e (headSpec wp_X3_inCode { frames := 2, cells := 0, slots := 0, locals := 43 }).room s m ([.ref (α.1 3), .int p1] : List Value).toArray below meth c (MQ below (va_Qi K (sm_B sm_wX D α) A) ([.ref (α.1 3), .int p1] : List Value).toArray s 0 0 A) D A 5 (sm_wX σ α) 123 [(0, .ref (α.1 3)), (1, .int x1), (2, .int x2), (3, .int x3)] [] := by
    intro L30 hL30 σ x1 x2 x3 hF H locs ls hP hS hl
    unfold mp_X3_inCode_123 at hF
    obtain ⟨v1, ev1⟩ : ∃ y : Int32, y = x3 + 1 := ⟨_, rfl⟩
    replace hF := hF v1 ev1
    refine lv_iinc (v := v1) (lv' := [(3, .int v1), (0, .ref (α.1 3)), (1, .int x1), (2, .int x2)]) hx hb dX3_inCode_123 hl (k := 3) rfl (by rw [ev1]; rfl) (by decide) rfl (fun ls hl => ?_)
    refine lv_goto (tgt := 30) hx hb dX3_inCode_126 (by decide) ?_
    exact hL30 σ x1 x2 v1 hF H locs ls hP hS (lv_sub hl [1, 2, 3, 0] rfl)
  have B84 : ∀ (L30 : sm_S → Int32 → Int32 → Int32 → Prop) (hL30 : ∀ (σ : sm_S) (x1 : Int32) (x2 : Int32) (x3 : Int32), L30 σ x1 x2 x3 → sm_J p l e (headSpec wp_X3_inCode { frames := 2, cells := 0, slots := 0, locals := 43 }).room s m ([.ref (α.1 3), .int p1] : List Value).toArray below meth c (MQ below (va_Qi K (sm_B sm_wX D α) A) ([.ref (α.1 3), .int p1] : List Value).toArray s 0 0 A) D A 5 (sm_wX σ α) 30 [(0, .ref (α.1 3)), (1, .int x1), (2, .int x2), (3, .int x3)] []) (σ : sm_S) (x1 : Int32) (x2 : Int32) (x3 : Int32), mp_X3_inCode_84 L30 K σ x1 x2 x3 → sm_J p l e (headSpec wp_X3_inCode { frames := 2, cells := 0, slots := 0, locals := 43 }).room s m ([.ref (α.1 3), .int p1] : List Value).toArray below meth c (MQ below (va_Qi K (sm_B sm_wX D α) A) ([.ref (α.1 3), .int p1] : List Value).toArray s 0 0 A) D A 5 (sm_wX σ α) 84 [(0, .ref (α.1 3)), (1, .int x1), (2, .int x2), (3, .int x3)] [] := by
    intro L30 hL30 σ x1 x2 x3 hF H locs ls hP hS hl
    unfold mp_X3_inCode_84 at hF
    refine lv_aload_n hx hb dX3_inCode_84 rfl (lv_at hl 0 rfl) ?_
    refine va_get (D := D) (ci := 3) (v := .ref (α.1 2)) (C := RX3) (T := TX3) (N := 3) hx hb hts in_X3 hown hK hP 3 (sm_gX3 σ α) rfl 0 (by decide) k_0 (fun _ h9 => h9) rfl dX3_inCode_85 ?_
    refine lv_iload_n hx hb dX3_inCode_88 rfl (lv_at hl 3 rfl) ?_
    refine sm_vi (As := [.int x3]) (rest := []) hP hK hD hE hS hA ⟨hx, hb, hml, hown, hts⟩ hl.1 (c_X2_jumpPlace l D H.size t0 σ α x3 _ hF) (cwV 1 hts wg_X3_inCode_X2_jumpPlace_80 rfl rfl rfl (by decide +kernel) ⟨Nat.le_of_ble_eq_true rfl, Nat.le_of_ble_eq_true rfl⟩) (va_recv hK hP (ci := 2) (q0 := 2) rfl (sm_gX2 σ α)) rfl rfl (Nat.le_of_ble_eq_true rfl) dX3_inCode_89 ⟨Nat.zero_le _, Nat.zero_le _⟩ (fun r3 σ2 H locs hF hP hS => ?_)
    refine lv_istore (lv' := [(4, .int r3), (0, .ref (α.1 3)), (1, .int x1), (2, .int x2), (3, .int x3)]) hx hb dX3_inCode_92 hl (by decide) rfl (fun ls hl => ?_)
    refine lv_iload hx hb dX3_inCode_94 (lv_at hl 0 rfl) ?_
    refine lv_iconst (v := -1) hx hb dX3_inCode_96 (by decide) ?_
    refine lv_icmp_eq (tgt := 123) hx hb dX3_inCode_97 (by decide) (fun h4 => ?_) (fun h4 => ?_)
    · replace hF := hF.1 h4
      exact B123 L30 hL30 σ2 x1 x2 x3 hF H locs ls hP hS (lv_sub hl [1, 2, 3, 4] rfl)
    · replace hF := hF.2 h4
      refine lv_aload_n hx hb dX3_inCode_100 rfl (lv_at hl 1 rfl) ?_
      refine va_get (D := D) (ci := 3) (v := .ref (α.1 2)) (C := RX3) (T := TX3) (N := 3) hx hb hts in_X3 hown hK hP 3 (sm_gX3 σ2 α) rfl 0 (by decide) k_0 (fun _ h9 => h9) rfl dX3_inCode_101 ?_
      refine lv_iload_n hx hb dX3_inCode_104 rfl (lv_at hl 2 rfl) ?_
      refine lv_aload_n hx hb dX3_inCode_105 rfl (lv_at hl 1 rfl) ?_
      refine va_get (D := D) (ci := 3) (v := .ref (α.1 2)) (C := RX3) (T := TX3) (N := 3) hx hb hts in_X3 hown hK hP 3 (sm_gX3 σ2 α) rfl 0 (by decide) k_0 (fun _ h9 => h9) rfl dX3_inCode_106 ?_
      refine lv_iload hx hb dX3_inCode_109 (lv_at hl 0 rfl) ?_
      refine sm_vi (As := [.int r3]) (rest := [.int x1, .ref (α.1 2)]) hP hK hD hE hS hA ⟨hx, hb, hml, hown, hts⟩ hl.1 (c_X2_pair l D H.size t0 σ2 α r3 _ hF) (cwV 1 hts wg_X3_inCode_X2_pair_83 rfl rfl rfl (by decide +kernel) ⟨Nat.le_of_ble_eq_true rfl, Nat.le_of_ble_eq_true rfl⟩) (va_recv hK hP (ci := 2) (q0 := 2) rfl (sm_gX2 σ2 α)) rfl rfl (Nat.le_of_ble_eq_true rfl) dX3_inCode_111 ⟨Nat.zero_le _, Nat.zero_le _⟩ (fun r6 σ5 H locs hF hP hS => ?_)
      refine sm_vi (As := [.int x1, .int r6]) (rest := []) hP hK hD hE hS hA ⟨hx, hb, hml, hown, hts⟩ hl.1 (c_X2_beginsAt l D H.size t0 σ5 α x1 r6 _ hF) (cwV 2 hts wg_X3_inCode_X2_beginsAt_86 rfl rfl rfl (by decide +kernel) ⟨Nat.le_of_ble_eq_true rfl, Nat.le_of_ble_eq_true rfl⟩) (va_recv hK hP (ci := 2) (q0 := 2) rfl (sm_gX2 σ5 α)) rfl rfl (Nat.le_of_ble_eq_true rfl) dX3_inCode_114 ⟨Nat.zero_le _, Nat.zero_le _⟩ (fun r8 σ7 H locs hF hP hS => ?_)
      refine lv_if_ne (tgt := 123) hx hb dX3_inCode_117 (by decide) (fun h9 => ?_) (fun h9 => ?_)
      · replace hF := hF.1 h9
        exact B123 L30 hL30 σ7 x1 x2 x3 hF H locs ls hP hS (lv_sub hl [1, 2, 3, 4] rfl)
      · replace hF := hF.2 h9
        refine lv_iload hx hb dX3_inCode_120 (lv_at hl 0 rfl) ?_
        exact W.iret (v := r3) hx hb hr (fun t ht hW => ⟨⟨r3, σ7, rfl, hF, (by unfold sm_B; rw [ht]; exact hP)⟩, hS.F ht⟩) hS.2.2 dX3_inCode_122
  have B30 : ∀ (n : Nat) (σ : sm_S) (x1 : Int32) (x2 : Int32) (x3 : Int32), mp_X3_inCode_30 K n σ x1 x2 x3 → sm_J p l e (headSpec wp_X3_inCode { frames := 2, cells := 0, slots := 0, locals := 43 }).room s m ([.ref (α.1 3), .int p1] : List Value).toArray below meth c (MQ below (va_Qi K (sm_B sm_wX D α) A) ([.ref (α.1 3), .int p1] : List Value).toArray s 0 0 A) D A 5 (sm_wX σ α) 30 [(0, .ref (α.1 3)), (1, .int x1), (2, .int x2), (3, .int x3)] [] := by
    intro n30
    induction n30 with
    | zero =>
      intro σ x1 x2 x3 hF
      exact hF.elim
    | succ n30 ih30 =>
      intro σ x1 x2 x3 hF H locs ls hP hS hl
      unfold mp_X3_inCode_30 at hF
      refine lv_iload_n hx hb dX3_inCode_30 rfl (lv_at hl 3 rfl) ?_
      refine lv_iload_n hx hb dX3_inCode_31 rfl (lv_at hl 2 rfl) ?_
      refine lv_icmp_ge (tgt := 129) hx hb dX3_inCode_32 (by decide) (fun h10 => ?_) (fun h10 => ?_)
      · replace hF := hF.1 h10
        refine lv_iconst (v := -1) hx hb dX3_inCode_129 (by decide) ?_
        exact W.iret (v := (-1)) hx hb hr (fun t ht hW => ⟨⟨(-1), σ, rfl, hF, (by unfold sm_B; rw [ht]; exact hP)⟩, hS.F ht⟩) hS.2.2 dX3_inCode_130
      · replace hF := hF.2 h10
        refine lv_aload_n hx hb dX3_inCode_35 rfl (lv_at hl 0 rfl) ?_
        refine va_get (D := D) (ci := 3) (v := .ref (α.1 2)) (C := RX3) (T := TX3) (N := 3) hx hb hts in_X3 hown hK hP 3 (sm_gX3 σ α) rfl 0 (by decide) k_0 (fun _ h9 => h9) rfl dX3_inCode_36 ?_
        refine va_get (D := D) (ci := 2) (v := .ref (α.1 19)) (C := RX2) (T := TX2) (N := 6) hx hb hts in_X2 hown hK hP 2 (sm_gX2 σ α) rfl 3 (by decide) k_1 (fun _ h9 => h9) rfl dX3_inCode_39 ?_
        refine lv_iload_n hx hb dX3_inCode_42 rfl (lv_at hl 3 rfl) ?_
        obtain ⟨h11, hF⟩ := hF
        refine va_zald (n := (σ.2.2.1 19)) (f := (σ.2.2.2.1 19)) hx hb hK hP 19 8 (sm_aX19 σ α) (sm_yX19 α) h11 dX3_inCode_43 ?_
        refine lv_if_eq (tgt := 123) hx hb dX3_inCode_44 (by decide) (fun h12 => ?_) (fun h12 => ?_)
        · replace hF := hF.1 h12
          exact B123 (mp_X3_inCode_30 K n30) ih30 σ x1 x2 x3 hF H locs ls hP hS (lv_sub hl [0, 1, 2, 3] rfl)
        · replace hF := hF.2 h12
          refine lv_aload_n hx hb dX3_inCode_47 rfl (lv_at hl 0 rfl) ?_
          refine va_get (D := D) (ci := 3) (v := .ref (α.1 2)) (C := RX3) (T := TX3) (N := 3) hx hb hts in_X3 hown hK hP 3 (sm_gX3 σ α) rfl 0 (by decide) k_0 (fun _ h9 => h9) rfl dX3_inCode_48 ?_
          refine lv_iload_n hx hb dX3_inCode_51 rfl (lv_at hl 3 rfl) ?_
          refine sm_vi (As := [.int x3]) (rest := []) hP hK hD hE hS hA ⟨hx, hb, hml, hown, hts⟩ hl.1 (c_X2_at l D H.size t0 σ α x3 _ hF) (cwV 1 hts wg_X3_inCode_X2_at_77 rfl rfl rfl (by decide +kernel) ⟨Nat.le_of_ble_eq_true rfl, Nat.le_of_ble_eq_true rfl⟩) (va_recv hK hP (ci := 2) (q0 := 2) rfl (sm_gX2 σ α)) rfl rfl (Nat.le_of_ble_eq_true rfl) dX3_inCode_52 ⟨Nat.zero_le _, Nat.zero_le _⟩ (fun r14 σ13 H locs hF hP hS => ?_)
          refine lv_bipush (v := 35) hx hb dX3_inCode_55 (by decide) ?_
          refine lv_icmp_ne (tgt := 84) hx hb dX3_inCode_57 (by decide) (fun h15 => ?_) (fun h15 => ?_)
          · replace hF := hF.1 h15
            exact B84 (mp_X3_inCode_30 K n30) ih30 σ13 x1 x2 x3 hF H locs ls hP hS (lv_sub hl [0, 1, 2, 3] rfl)
          · replace hF := hF.2 h15
            refine lv_aload_n hx hb dX3_inCode_60 rfl (lv_at hl 0 rfl) ?_
            refine va_get (D := D) (ci := 3) (v := .ref (α.1 2)) (C := RX3) (T := TX3) (N := 3) hx hb hts in_X3 hown hK hP 3 (sm_gX3 σ13 α) rfl 0 (by decide) k_0 (fun _ h9 => h9) rfl dX3_inCode_61 ?_
            refine lv_iload_n hx hb dX3_inCode_64 rfl (lv_at hl 3 rfl) ?_
            refine lv_iconst (v := 1) hx hb dX3_inCode_65 (by decide) ?_
            refine lv_iadd hx hb dX3_inCode_66 ?_
            refine sm_vi (As := [.int (x3 + 1)]) (rest := []) hP hK hD hE hS hA ⟨hx, hb, hml, hown, hts⟩ hl.1 (c_X2_at l D H.size t0 σ13 α (x3 + 1) _ hF) (cwV 1 hts wg_X3_inCode_X2_at_77 rfl rfl rfl (by decide +kernel) ⟨Nat.le_of_ble_eq_true rfl, Nat.le_of_ble_eq_true rfl⟩) (va_recv hK hP (ci := 2) (q0 := 2) rfl (sm_gX2 σ13 α)) rfl rfl (Nat.le_of_ble_eq_true rfl) dX3_inCode_67 ⟨Nat.zero_le _, Nat.zero_le _⟩ (fun r17 σ16 H locs hF hP hS => ?_)
            refine lv_aload_n hx hb dX3_inCode_70 rfl (lv_at hl 0 rfl) ?_
            refine va_get (D := D) (ci := 3) (v := .ref (α.1 4)) (C := RX3) (T := TX3) (N := 3) hx hb hts in_X3 hown hK hP 3 (sm_gX3 σ16 α) rfl 2 (by decide) k_2 (fun _ h9 => h9) rfl dX3_inCode_71 ?_
            refine va_get (D := D) (ci := 4) (v := .int (σ16.1 16)) (C := RX4) (T := TX4) (N := 12) hx hb hts in_X4 hown hK hP 4 (sm_gX4 σ16 α) rfl 0 (by decide) k_3 (fun _ h9 => h9) rfl dX3_inCode_74 ?_
            refine lv_icmp_lt (tgt := 84) hx hb dX3_inCode_77 (by decide) (fun h18 => ?_) (fun h18 => ?_)
            · replace hF := hF.1 h18
              exact B84 (mp_X3_inCode_30 K n30) ih30 σ16 x1 x2 x3 hF H locs ls hP hS (lv_sub hl [0, 1, 2, 3] rfl)
            · replace hF := hF.2 h18
              refine lv_iload_n hx hb dX3_inCode_80 rfl (lv_at hl 3 rfl) ?_
              refine lv_iconst (v := 1) hx hb dX3_inCode_81 (by decide) ?_
              refine lv_iadd hx hb dX3_inCode_82 ?_
              exact W.iret (v := (x3 + 1)) hx hb hr (fun t ht hW => ⟨⟨(x3 + 1), σ16, rfl, hF, (by unfold sm_B; rw [ht]; exact hP)⟩, hS.F ht⟩) hS.2.2 dX3_inCode_83
  unfold mp_X3_inCode at hF
  revert hP hS
  generalize hLo : ([] : List Loc) = locs
  suffices h9 : ∀ (H : Heap) (locs : List Loc), va_P D vwCl (sm_wX σ α) H → va_S A s.heap H locs → W p l e (headSpec wp_X3_inCode { frames := 2, cells := 0, slots := 0, locals := 43 }).room s m ([.ref (α.1 3), .int p1] : List Value).toArray below meth c H locs 0 0 (MQ below (va_Qi K (sm_B sm_wX D α) A) ([.ref (α.1 3), .int p1] : List Value).toArray s 0 0 A) (F0 m 0 ls []) from fun hP hS => h9 s.heap locs hP hS
  intro H locs hP hS
  refine lv_aload_n hx hb dX3_inCode_0 rfl (lv_at hl 0 rfl) ?_
  refine va_get (D := D) (ci := 3) (v := .ref (α.1 4)) (C := RX3) (T := TX3) (N := 3) hx hb hts in_X3 hown hK hP 3 (sm_gX3 σ α) rfl 2 (by decide) k_2 (fun _ h9 => h9) rfl dX3_inCode_1 ?_
  refine va_get (D := D) (ci := 4) (v := .ref (α.1 26)) (C := RX4) (T := TX4) (N := 12) hx hb hts in_X4 hown hK hP 4 (sm_gX4 σ α) rfl 8 (by decide) k_4 (fun _ h9 => h9) rfl dX3_inCode_4 ?_
  refine lv_iload_n hx hb dX3_inCode_7 rfl (lv_at hl 1 rfl) ?_
  obtain ⟨h19, hF⟩ := hF
  refine va_iald (n := (σ.2.2.1 26)) (f := (σ.2.2.2.1 26)) hx hb hK hP 26 15 (sm_aX26 σ α) (sm_yX26 α) h19 dX3_inCode_8 ?_
  refine lv_aload_n hx hb dX3_inCode_9 rfl (lv_at hl 0 rfl) ?_
  refine va_get (D := D) (ci := 3) (v := .ref (α.1 4)) (C := RX3) (T := TX3) (N := 3) hx hb hts in_X3 hown hK hP 3 (sm_gX3 σ α) rfl 2 (by decide) k_2 (fun _ h9 => h9) rfl dX3_inCode_10 ?_
  refine va_get (D := D) (ci := 4) (v := .ref (α.1 27)) (C := RX4) (T := TX4) (N := 12) hx hb hts in_X4 hown hK hP 4 (sm_gX4 σ α) rfl 9 (by decide) k_5 (fun _ h9 => h9) rfl dX3_inCode_13 ?_
  refine lv_iload_n hx hb dX3_inCode_16 rfl (lv_at hl 1 rfl) ?_
  obtain ⟨h20, hF⟩ := hF
  refine va_iald (n := (σ.2.2.1 27)) (f := (σ.2.2.2.1 27)) hx hb hK hP 27 16 (sm_aX27 σ α) (sm_yX27 α) h20 dX3_inCode_17 ?_
  refine lv_iadd hx hb dX3_inCode_18 ?_
  refine lv_topi (fun v21 ev21 => ?_)
  replace hF := hF v21 ev21
  refine lv_istore_n (lv' := [(2, .int v21), (0, .ref (α.1 3)), (1, .int p1)]) hx hb dX3_inCode_19 rfl hl (by decide) rfl (fun ls hl => ?_)
  refine lv_aload_n hx hb dX3_inCode_20 rfl (lv_at hl 1 rfl) ?_
  refine va_get (D := D) (ci := 3) (v := .ref (α.1 4)) (C := RX3) (T := TX3) (N := 3) hx hb hts in_X3 hown hK hP 3 (sm_gX3 σ α) rfl 2 (by decide) k_2 (fun _ h9 => h9) rfl dX3_inCode_21 ?_
  refine va_get (D := D) (ci := 4) (v := .ref (α.1 26)) (C := RX4) (T := TX4) (N := 12) hx hb hts in_X4 hown hK hP 4 (sm_gX4 σ α) rfl 8 (by decide) k_4 (fun _ h9 => h9) rfl dX3_inCode_24 ?_
  refine lv_iload_n hx hb dX3_inCode_27 rfl (lv_at hl 2 rfl) ?_
  obtain ⟨h22, hF⟩ := hF
  refine va_iald (n := (σ.2.2.1 26)) (f := (σ.2.2.2.1 26)) hx hb hK hP 26 15 (sm_aX26 σ α) (sm_yX26 α) h22 dX3_inCode_28 ?_
  refine lv_topi (fun v23 ev23 => ?_)
  replace hF := hF v23 ev23
  refine lv_istore_n (lv' := [(3, .int v23), (2, .int v21), (0, .ref (α.1 3)), (1, .int p1)]) hx hb dX3_inCode_29 rfl hl (by decide) rfl (fun ls hl => ?_)
  obtain ⟨n30, hF⟩ := hF
  exact B30 n30 σ p1 v21 v23 hF H locs ls hP hS (lv_sub hl [2, 3, 1, 0] rfl)
theorem dX3_inHandlers_0 : decode cX3_inHandlers 0 = .ok (.iconst 0, 1) := by decide +kernel
theorem dX3_inHandlers_1 : decode cX3_inHandlers 1 = .ok (.istore_n 2, 1) := by decide +kernel
theorem dX3_inHandlers_2 : decode cX3_inHandlers 2 = .ok (.iload_n 2, 1) := by decide +kernel
theorem dX3_inHandlers_3 : decode cX3_inHandlers 3 = .ok (.aload_n 0, 1) := by decide +kernel
theorem dX3_inHandlers_4 : decode cX3_inHandlers 4 = .ok (.getfield 26, 3) := by decide +kernel
theorem dX3_inHandlers_7 : decode cX3_inHandlers 7 = .ok (.getfield 89, 3) := by decide +kernel
theorem dX3_inHandlers_10 : decode cX3_inHandlers 10 = .ok (.iload_n 1, 1) := by decide +kernel
theorem dX3_inHandlers_11 : decode cX3_inHandlers 11 = .ok (.iaload, 1) := by decide +kernel
theorem dX3_inHandlers_12 : decode cX3_inHandlers 12 = .ok (.if_icmp .ge 124, 3) := by decide +kernel
theorem dX3_inHandlers_15 : decode cX3_inHandlers 15 = .ok (.aload_n 0, 1) := by decide +kernel
theorem dX3_inHandlers_16 : decode cX3_inHandlers 16 = .ok (.getfield 26, 3) := by decide +kernel
theorem dX3_inHandlers_19 : decode cX3_inHandlers 19 = .ok (.getfield 92, 3) := by decide +kernel
theorem dX3_inHandlers_22 : decode cX3_inHandlers 22 = .ok (.iload_n 1, 1) := by decide +kernel
theorem dX3_inHandlers_23 : decode cX3_inHandlers 23 = .ok (.iaload, 1) := by decide +kernel
theorem dX3_inHandlers_24 : decode cX3_inHandlers 24 = .ok (.iload_n 2, 1) := by decide +kernel
theorem dX3_inHandlers_25 : decode cX3_inHandlers 25 = .ok (.bipush 7, 2) := by decide +kernel
theorem dX3_inHandlers_27 : decode cX3_inHandlers 27 = .ok (.imul, 1) := by decide +kernel
theorem dX3_inHandlers_28 : decode cX3_inHandlers 28 = .ok (.iadd, 1) := by decide +kernel
theorem dX3_inHandlers_29 : decode cX3_inHandlers 29 = .ok (.istore_n 3, 1) := by decide +kernel
theorem dX3_inHandlers_30 : decode cX3_inHandlers 30 = .ok (.aload_n 0, 1) := by decide +kernel
theorem dX3_inHandlers_31 : decode cX3_inHandlers 31 = .ok (.getfield 9, 3) := by decide +kernel
theorem dX3_inHandlers_34 : decode cX3_inHandlers 34 = .ok (.iload_n 3, 1) := by decide +kernel
theorem dX3_inHandlers_35 : decode cX3_inHandlers 35 = .ok (.invokevirtual 83, 3) := by decide +kernel
theorem dX3_inHandlers_38 : decode cX3_inHandlers 38 = .ok (.istore 4, 2) := by decide +kernel
theorem dX3_inHandlers_40 : decode cX3_inHandlers 40 = .ok (.aload_n 0, 1) := by decide +kernel
theorem dX3_inHandlers_41 : decode cX3_inHandlers 41 = .ok (.getfield 9, 3) := by decide +kernel
theorem dX3_inHandlers_44 : decode cX3_inHandlers 44 = .ok (.iload_n 3, 1) := by decide +kernel
theorem dX3_inHandlers_45 : decode cX3_inHandlers 45 = .ok (.iconst 2, 1) := by decide +kernel
theorem dX3_inHandlers_46 : decode cX3_inHandlers 46 = .ok (.iadd, 1) := by decide +kernel
theorem dX3_inHandlers_47 : decode cX3_inHandlers 47 = .ok (.invokevirtual 83, 3) := by decide +kernel
theorem dX3_inHandlers_50 : decode cX3_inHandlers 50 = .ok (.istore 5, 2) := by decide +kernel
theorem dX3_inHandlers_52 : decode cX3_inHandlers 52 = .ok (.aload_n 0, 1) := by decide +kernel
theorem dX3_inHandlers_53 : decode cX3_inHandlers 53 = .ok (.getfield 9, 3) := by decide +kernel
theorem dX3_inHandlers_56 : decode cX3_inHandlers 56 = .ok (.iload_n 1, 1) := by decide +kernel
theorem dX3_inHandlers_57 : decode cX3_inHandlers 57 = .ok (.iload 4, 2) := by decide +kernel
theorem dX3_inHandlers_59 : decode cX3_inHandlers 59 = .ok (.invokevirtual 86, 3) := by decide +kernel
theorem dX3_inHandlers_62 : decode cX3_inHandlers 62 = .ok (.ifCond .eq 10, 3) := by decide +kernel
theorem dX3_inHandlers_65 : decode cX3_inHandlers 65 = .ok (.iload 4, 2) := by decide +kernel
theorem dX3_inHandlers_67 : decode cX3_inHandlers 67 = .ok (.iload 5, 2) := by decide +kernel
theorem dX3_inHandlers_69 : decode cX3_inHandlers 69 = .ok (.if_icmp .lt 5, 3) := by decide +kernel
theorem dX3_inHandlers_72 : decode cX3_inHandlers 72 = .ok (.iload_n 3, 1) := by decide +kernel
theorem dX3_inHandlers_73 : decode cX3_inHandlers 73 = .ok (.ireturn, 1) := by decide +kernel
theorem dX3_inHandlers_74 : decode cX3_inHandlers 74 = .ok (.aload_n 0, 1) := by decide +kernel
theorem dX3_inHandlers_75 : decode cX3_inHandlers 75 = .ok (.getfield 9, 3) := by decide +kernel
theorem dX3_inHandlers_78 : decode cX3_inHandlers 78 = .ok (.iload_n 1, 1) := by decide +kernel
theorem dX3_inHandlers_79 : decode cX3_inHandlers 79 = .ok (.iload 5, 2) := by decide +kernel
theorem dX3_inHandlers_81 : decode cX3_inHandlers 81 = .ok (.invokevirtual 86, 3) := by decide +kernel
theorem dX3_inHandlers_84 : decode cX3_inHandlers 84 = .ok (.ifCond .ne 21, 3) := by decide +kernel
theorem dX3_inHandlers_87 : decode cX3_inHandlers 87 = .ok (.iload 5, 2) := by decide +kernel
theorem dX3_inHandlers_89 : decode cX3_inHandlers 89 = .ok (.aload_n 0, 1) := by decide +kernel
theorem dX3_inHandlers_90 : decode cX3_inHandlers 90 = .ok (.getfield 26, 3) := by decide +kernel
theorem dX3_inHandlers_93 : decode cX3_inHandlers 93 = .ok (.getfield 70, 3) := by decide +kernel
theorem dX3_inHandlers_96 : decode cX3_inHandlers 96 = .ok (.iload_n 1, 1) := by decide +kernel
theorem dX3_inHandlers_97 : decode cX3_inHandlers 97 = .ok (.iaload, 1) := by decide +kernel
theorem dX3_inHandlers_98 : decode cX3_inHandlers 98 = .ok (.if_icmp .eq 7, 3) := by decide +kernel
theorem dX3_inHandlers_101 : decode cX3_inHandlers 101 = .ok (.iload_n 3, 1) := by decide +kernel
theorem dX3_inHandlers_102 : decode cX3_inHandlers 102 = .ok (.iconst 2, 1) := by decide +kernel
theorem dX3_inHandlers_103 : decode cX3_inHandlers 103 = .ok (.iadd, 1) := by decide +kernel
theorem dX3_inHandlers_104 : decode cX3_inHandlers 104 = .ok (.ireturn, 1) := by decide +kernel
theorem dX3_inHandlers_105 : decode cX3_inHandlers 105 = .ok (.aload_n 0, 1) := by decide +kernel
theorem dX3_inHandlers_106 : decode cX3_inHandlers 106 = .ok (.getfield 9, 3) := by decide +kernel
theorem dX3_inHandlers_109 : decode cX3_inHandlers 109 = .ok (.iload_n 1, 1) := by decide +kernel
theorem dX3_inHandlers_110 : decode cX3_inHandlers 110 = .ok (.aload_n 0, 1) := by decide +kernel
theorem dX3_inHandlers_111 : decode cX3_inHandlers 111 = .ok (.getfield 9, 3) := by decide +kernel
theorem dX3_inHandlers_114 : decode cX3_inHandlers 114 = .ok (.iload_n 3, 1) := by decide +kernel
theorem dX3_inHandlers_115 : decode cX3_inHandlers 115 = .ok (.iconst 5, 1) := by decide +kernel
theorem dX3_inHandlers_116 : decode cX3_inHandlers 116 = .ok (.iadd, 1) := by decide +kernel
theorem dX3_inHandlers_117 : decode cX3_inHandlers 117 = .ok (.invokevirtual 83, 3) := by decide +kernel
theorem dX3_inHandlers_120 : decode cX3_inHandlers 120 = .ok (.invokevirtual 86, 3) := by decide +kernel
theorem dX3_inHandlers_123 : decode cX3_inHandlers 123 = .ok (.ifCond .ne 7, 3) := by decide +kernel
theorem dX3_inHandlers_126 : decode cX3_inHandlers 126 = .ok (.iload_n 3, 1) := by decide +kernel
theorem dX3_inHandlers_127 : decode cX3_inHandlers 127 = .ok (.iconst 5, 1) := by decide +kernel
theorem dX3_inHandlers_128 : decode cX3_inHandlers 128 = .ok (.iadd, 1) := by decide +kernel
theorem dX3_inHandlers_129 : decode cX3_inHandlers 129 = .ok (.ireturn, 1) := by decide +kernel
theorem dX3_inHandlers_130 : decode cX3_inHandlers 130 = .ok (.iinc 2 1, 3) := by decide +kernel
theorem dX3_inHandlers_133 : decode cX3_inHandlers 133 = .ok (.goto (-131), 3) := by decide +kernel
theorem dX3_inHandlers_136 : decode cX3_inHandlers 136 = .ok (.iconst (-1), 1) := by decide +kernel
theorem dX3_inHandlers_137 : decode cX3_inHandlers 137 = .ok (.ireturn, 1) := by decide +kernel
def wp_X3_inHandlers : List Cond := .code yX3_inHandlers cX3_inHandlers 6 (some .int) :: (((([.fieldLink RX3 9 "SteadyMachine$Linker" "image" "LSteadyMachine$Image;", .fieldLink RX3 26 "SteadyMachine$Linker" "methods" "LSteadyMachine$Methods;", .fieldLink RX3 89 "SteadyMachine$Methods" "handlers" "[I", .fieldLink RX3 92 "SteadyMachine$Methods" "handlerPlace" "[I", .fieldLink RX3 70 "SteadyMachine$Methods" "length" "[I"] ++ (wsV RX3 83 RX2 yX2_pair wp_X2_pair)) ++ (wsV RX3 86 RX2 yX2_beginsAt wp_X2_beginsAt)) ++ wsX30) ++ wsX40)
theorem wq_X3_inHandlers : wp_X3_inHandlers.all goodWord = true := wa_c rfl (wa_a (wa_a (wa_a (wa_a (by decide +kernel) (wa_V wq_X2_pair)) (wa_V wq_X2_beginsAt)) uq_X3) uq_X4)
theorem wt_X3_inHandlers : GoodIn lw_tbl wp_X3_inHandlers := wm_c (List.mem_of_getElem? (i := 740) (by decide +kernel)) rfl (wm_a (wm_a (wm_a (wm_a (goodIn_r _ [359, 361, 259, 264, 254] (by decide +kernel) (by decide +kernel)) (wm_a (goodIn_r _ [729, 730, 731, 137] (by decide +kernel) (by decide +kernel)) wt_X2_pair)) (wm_a (goodIn_r _ [733, 734, 735, 137] (by decide +kernel) (by decide +kernel)) wt_X2_beginsAt)) ut_X3) ut_X4)
theorem wg_X3_inHandlers_X2_pair_83 : GoodIn wp_X3_inHandlers (wsV RX3 83 RX2 yX2_pair wp_X2_pair) := goodIn_sub (fun w h => List.mem_cons_of_mem _ (List.mem_append_left _ (List.mem_append_left _ (List.mem_append_left _ (List.mem_append_right _ h))))) (wa_V wq_X2_pair)
theorem wg_X3_inHandlers_X2_beginsAt_86 : GoodIn wp_X3_inHandlers (wsV RX3 86 RX2 yX2_beginsAt wp_X2_beginsAt) := goodIn_sub (fun w h => List.mem_cons_of_mem _ (List.mem_append_left _ (List.mem_append_left _ (List.mem_append_right _ h)))) (wa_V wq_X2_beginsAt)
theorem wi_X3_inHandlers_X3 : ∀ w ∈ wsX30, w ∈ wp_X3_inHandlers := fun w h => List.mem_cons_of_mem _ (List.mem_append_left _ (List.mem_append_right _ h))
theorem wi_X3_inHandlers_X4 : ∀ w ∈ wsX40, w ∈ wp_X3_inHandlers := fun w h => List.mem_cons_of_mem _ (List.mem_append_right _ h)
set_option maxHeartbeats 4000000 in
set_option maxRecDepth 100000 in
theorem c_X3_inHandlers (l : Launch) (D : va_G) (sz t0 : Nat) (σ : sm_S) (α : sm_A) (p1 : Int32) (K : Int32 → sm_S → Prop) (hF : mp_X3_inHandlers σ p1 K) : Met l yX3_inHandlers wp_X3_inHandlers { frames := 1, cells := 0, slots := 0, locals := 22 } (sm_P sm_wX sm_tX 37 D sz t0 σ α [.ref (α.1 3), .int p1]) (va_Qi K (sm_B sm_wX D α) (sm_a α 37 sz)) 0 0 (sm_a α 37 sz) := by
  refine Met.ofW (cc := cX3_inHandlers) (maxL := 6) (ret := (some .int)) (by decide) rfl ?_
  intro p e s m args below meth c s₁ B hml hv
  obtain ⟨rfl, hsz, hP, hK, hD0, hE⟩ := hv
  have hx := B.exec
  have hb := B.bytes
  have hr := B.returns
  have hts := atoms_spec (ws := wp_X3_inHandlers) B.pre
  have hown : s.vm.findClass RX3 = some m.cls := findClass_of_methodNamed B.named
  have hlocks := B.notSynchronized
  subst hsz
  have hD : sm_D (sm_a α 37 s.heap.size) α 37 := hD0.own
  have hA : ∀ q : Nat, s.heap.size ≤ q → sm_a α 37 s.heap.size q := fun q h => Or.inr h
  generalize hAe : sm_a α 37 s.heap.size = A at hD hA hE ⊢
  have hS : va_S A s.heap s.heap [] := va_S.rf
  have in_X3 : ∀ w ∈ wsX30, w ∈ wp_X3_inHandlers := wi_X3_inHandlers_X3
  have in_X4 : ∀ w ∈ wsX40, w ∈ wp_X3_inHandlers := wi_X3_inHandlers_X4
  have k_0 := hts (.fieldLink RX3 9 "SteadyMachine$Linker" "image" "LSteadyMachine$Image;") (by decide +kernel)
  have k_1 := hts (.fieldLink RX3 26 "SteadyMachine$Linker" "methods" "LSteadyMachine$Methods;") (by decide +kernel)
  have k_2 := hts (.fieldLink RX3 89 "SteadyMachine$Methods" "handlers" "[I") (by decide +kernel)
  have k_3 := hts (.fieldLink RX3 92 "SteadyMachine$Methods" "handlerPlace" "[I") (by decide +kernel)
  have k_4 := hts (.fieldLink RX3 70 "SteadyMachine$Methods" "length" "[I") (by decide +kernel)
  have hl := lv_entry ([.ref (α.1 3), .int p1]) (n := 6) (Nat.le_of_ble_eq_true rfl)
  rw [lg_entry_eq]
  generalize (lg_sl ([.ref (α.1 3), .int p1]) ++ List.replicate (6 - (lg_sl ([.ref (α.1 3), .int p1])).length) Slot.unset).toArray = ls at hl ⊢
  have hl : lv_has ls 6 [(0, .ref (α.1 3)), (1, .int p1)] := hl
  have B105 : ∀ (L2 : sm_S → Int32 → Int32 → Prop) (hL2 : ∀ (σ : sm_S) (x1 : Int32) (x2 : Int32), L2 σ x1 x2 → sm_J p l e (headSpec wp_X3_inHandlers { frames := 1, cells := 0, slots := 0, locals := 22 }).room s m ([.ref (α.1 3), .int p1] : List Value).toArray below meth c (MQ below (va_Qi K (sm_B sm_wX D α) A) ([.ref (α.1 3), .int p1] : List Value).toArray s 0 0 A) D A 6 (sm_wX σ α) 2 [(0, .ref (α.1 3)), (1, .int x1), (2, .int x2)] []) (σ : sm_S) (x1 : Int32) (x2 : Int32) (x3 : Int32), mp_X3_inHandlers_105 L2 K σ x1 x2 x3 → sm_J p l e (headSpec wp_X3_inHandlers { frames := 1, cells := 0, slots := 0, locals := 22 }).room s m ([.ref (α.1 3), .int p1] : List Value).toArray below meth c (MQ below (va_Qi K (sm_B sm_wX D α) A) ([.ref (α.1 3), .int p1] : List Value).toArray s 0 0 A) D A 6 (sm_wX σ α) 105 [(0, .ref (α.1 3)), (1, .int x1), (2, .int x2), (3, .int x3)] [] := by
    intro L2 hL2 σ x1 x2 x3 hF H locs ls hP hS hl
    unfold mp_X3_inHandlers_105 at hF
    refine lv_aload_n hx hb dX3_inHandlers_105 rfl (lv_at hl 0 rfl) ?_
    refine va_get (D := D) (ci := 3) (v := .ref (α.1 2)) (C := RX3) (T := TX3) (N := 3) hx hb hts in_X3 hown hK hP 3 (sm_gX3 σ α) rfl 0 (by decide) k_0 (fun _ h9 => h9) rfl dX3_inHandlers_106 ?_
    refine lv_iload_n hx hb dX3_inHandlers_109 rfl (lv_at hl 1 rfl) ?_
    refine lv_aload_n hx hb dX3_inHandlers_110 rfl (lv_at hl 0 rfl) ?_
    refine va_get (D := D) (ci := 3) (v := .ref (α.1 2)) (C := RX3) (T := TX3) (N := 3) hx hb hts in_X3 hown hK hP 3 (sm_gX3 σ α) rfl 0 (by decide) k_0 (fun _ h9 => h9) rfl dX3_inHandlers_111 ?_
    refine lv_iload_n hx hb dX3_inHandlers_114 rfl (lv_at hl 3 rfl) ?_
    refine lv_iconst (v := 5) hx hb dX3_inHandlers_115 (by decide) ?_
    refine lv_iadd hx hb dX3_inHandlers_116 ?_
    refine sm_vi (As := [.int (x3 + 5)]) (rest := [.int x1, .ref (α.1 2)]) hP hK hD hE hS hA ⟨hx, hb, hml, hown, hts⟩ hl.1 (c_X2_pair l D H.size t0 σ α (x3 + 5) _ hF) (cwV 1 hts wg_X3_inHandlers_X2_pair_83 rfl rfl rfl (by decide +kernel) ⟨Nat.le_of_ble_eq_true rfl, Nat.le_of_ble_eq_true rfl⟩) (va_recv hK hP (ci := 2) (q0 := 2) rfl (sm_gX2 σ α)) rfl rfl (Nat.le_of_ble_eq_true rfl) dX3_inHandlers_117 ⟨Nat.zero_le _, Nat.zero_le _⟩ (fun r2 σ1 H locs hF hP hS => ?_)
    refine sm_vi (As := [.int x1, .int r2]) (rest := []) hP hK hD hE hS hA ⟨hx, hb, hml, hown, hts⟩ hl.1 (c_X2_beginsAt l D H.size t0 σ1 α x1 r2 _ hF) (cwV 2 hts wg_X3_inHandlers_X2_beginsAt_86 rfl rfl rfl (by decide +kernel) ⟨Nat.le_of_ble_eq_true rfl, Nat.le_of_ble_eq_true rfl⟩) (va_recv hK hP (ci := 2) (q0 := 2) rfl (sm_gX2 σ1 α)) rfl rfl (Nat.le_of_ble_eq_true rfl) dX3_inHandlers_120 ⟨Nat.zero_le _, Nat.zero_le _⟩ (fun r4 σ3 H locs hF hP hS => ?_)
    refine lv_if_ne (tgt := 130) hx hb dX3_inHandlers_123 (by decide) (fun h5 => ?_) (fun h5 => ?_)
    · replace hF := hF.1 h5
      obtain ⟨v6, ev6⟩ : ∃ y : Int32, y = x2 + 1 := ⟨_, rfl⟩
      replace hF := hF v6 ev6
      refine lv_iinc (v := v6) (lv' := [(2, .int v6), (0, .ref (α.1 3)), (1, .int x1), (3, .int x3)]) hx hb dX3_inHandlers_130 hl (k := 2) rfl (by rw [ev6]; rfl) (by decide) rfl (fun ls hl => ?_)
      refine lv_goto (tgt := 2) hx hb dX3_inHandlers_133 (by decide) ?_
      exact hL2 σ3 x1 v6 hF H locs ls hP hS (lv_sub hl [1, 2, 0] rfl)
    · replace hF := hF.2 h5
      refine lv_iload_n hx hb dX3_inHandlers_126 rfl (lv_at hl 3 rfl) ?_
      refine lv_iconst (v := 5) hx hb dX3_inHandlers_127 (by decide) ?_
      refine lv_iadd hx hb dX3_inHandlers_128 ?_
      exact W.iret (v := (x3 + 5)) hx hb hr (fun t ht hW => ⟨⟨(x3 + 5), σ3, rfl, hF, (by unfold sm_B; rw [ht]; exact hP)⟩, hS.F ht⟩) hS.2.2 dX3_inHandlers_129
  have B72 : ∀ (L2 : sm_S → Int32 → Int32 → Prop) (hL2 : ∀ (σ : sm_S) (x1 : Int32) (x2 : Int32), L2 σ x1 x2 → sm_J p l e (headSpec wp_X3_inHandlers { frames := 1, cells := 0, slots := 0, locals := 22 }).room s m ([.ref (α.1 3), .int p1] : List Value).toArray below meth c (MQ below (va_Qi K (sm_B sm_wX D α) A) ([.ref (α.1 3), .int p1] : List Value).toArray s 0 0 A) D A 6 (sm_wX σ α) 2 [(0, .ref (α.1 3)), (1, .int x1), (2, .int x2)] []) (σ : sm_S) (x3 : Int32), mp_X3_inHandlers_72 L2 K σ x3 → sm_J p l e (headSpec wp_X3_inHandlers { frames := 1, cells := 0, slots := 0, locals := 22 }).room s m ([.ref (α.1 3), .int p1] : List Value).toArray below meth c (MQ below (va_Qi K (sm_B sm_wX D α) A) ([.ref (α.1 3), .int p1] : List Value).toArray s 0 0 A) D A 6 (sm_wX σ α) 72 [(3, .int x3)] [] := by
    intro L2 hL2 σ x3 hF H locs ls hP hS hl
    unfold mp_X3_inHandlers_72 at hF
    refine lv_iload_n hx hb dX3_inHandlers_72 rfl (lv_at hl 0 rfl) ?_
    exact W.iret (v := x3) hx hb hr (fun t ht hW => ⟨⟨x3, σ, rfl, hF, (by unfold sm_B; rw [ht]; exact hP)⟩, hS.F ht⟩) hS.2.2 dX3_inHandlers_73
  have B2 : ∀ (n : Nat) (σ : sm_S) (x1 : Int32) (x2 : Int32), mp_X3_inHandlers_2 K n σ x1 x2 → sm_J p l e (headSpec wp_X3_inHandlers { frames := 1, cells := 0, slots := 0, locals := 22 }).room s m ([.ref (α.1 3), .int p1] : List Value).toArray below meth c (MQ below (va_Qi K (sm_B sm_wX D α) A) ([.ref (α.1 3), .int p1] : List Value).toArray s 0 0 A) D A 6 (sm_wX σ α) 2 [(0, .ref (α.1 3)), (1, .int x1), (2, .int x2)] [] := by
    intro n2
    induction n2 with
    | zero =>
      intro σ x1 x2 hF
      exact hF.elim
    | succ n2 ih2 =>
      intro σ x1 x2 hF H locs ls hP hS hl
      unfold mp_X3_inHandlers_2 at hF
      refine lv_iload_n hx hb dX3_inHandlers_2 rfl (lv_at hl 2 rfl) ?_
      refine lv_aload_n hx hb dX3_inHandlers_3 rfl (lv_at hl 0 rfl) ?_
      refine va_get (D := D) (ci := 3) (v := .ref (α.1 4)) (C := RX3) (T := TX3) (N := 3) hx hb hts in_X3 hown hK hP 3 (sm_gX3 σ α) rfl 2 (by decide) k_1 (fun _ h9 => h9) rfl dX3_inHandlers_4 ?_
      refine va_get (D := D) (ci := 4) (v := .ref (α.1 28)) (C := RX4) (T := TX4) (N := 12) hx hb hts in_X4 hown hK hP 4 (sm_gX4 σ α) rfl 10 (by decide) k_2 (fun _ h9 => h9) rfl dX3_inHandlers_7 ?_
      refine lv_iload_n hx hb dX3_inHandlers_10 rfl (lv_at hl 1 rfl) ?_
      obtain ⟨h7, hF⟩ := hF
      refine va_iald (n := (σ.2.2.1 28)) (f := (σ.2.2.2.1 28)) hx hb hK hP 28 17 (sm_aX28 σ α) (sm_yX28 α) h7 dX3_inHandlers_11 ?_
      refine lv_icmp_ge (tgt := 136) hx hb dX3_inHandlers_12 (by decide) (fun h8 => ?_) (fun h8 => ?_)
      · replace hF := hF.1 h8
        refine lv_iconst (v := -1) hx hb dX3_inHandlers_136 (by decide) ?_
        exact W.iret (v := (-1)) hx hb hr (fun t ht hW => ⟨⟨(-1), σ, rfl, hF, (by unfold sm_B; rw [ht]; exact hP)⟩, hS.F ht⟩) hS.2.2 dX3_inHandlers_137
      · replace hF := hF.2 h8
        refine lv_aload_n hx hb dX3_inHandlers_15 rfl (lv_at hl 0 rfl) ?_
        refine va_get (D := D) (ci := 3) (v := .ref (α.1 4)) (C := RX3) (T := TX3) (N := 3) hx hb hts in_X3 hown hK hP 3 (sm_gX3 σ α) rfl 2 (by decide) k_1 (fun _ h9 => h9) rfl dX3_inHandlers_16 ?_
        refine va_get (D := D) (ci := 4) (v := .ref (α.1 29)) (C := RX4) (T := TX4) (N := 12) hx hb hts in_X4 hown hK hP 4 (sm_gX4 σ α) rfl 11 (by decide) k_3 (fun _ h9 => h9) rfl dX3_inHandlers_19 ?_
        refine lv_iload_n hx hb dX3_inHandlers_22 rfl (lv_at hl 1 rfl) ?_
        obtain ⟨h9, hF⟩ := hF
        refine va_iald (n := (σ.2.2.1 29)) (f := (σ.2.2.2.1 29)) hx hb hK hP 29 18 (sm_aX29 σ α) (sm_yX29 α) h9 dX3_inHandlers_23 ?_
        refine lv_iload_n hx hb dX3_inHandlers_24 rfl (lv_at hl 2 rfl) ?_
        refine lv_bipush (v := 7) hx hb dX3_inHandlers_25 (by decide) ?_
        refine lv_imul hx hb dX3_inHandlers_27 ?_
        refine lv_iadd hx hb dX3_inHandlers_28 ?_
        refine lv_topi (fun v10 ev10 => ?_)
        replace hF := hF v10 ev10
        refine lv_istore_n (lv' := [(3, .int v10), (0, .ref (α.1 3)), (1, .int x1), (2, .int x2)]) hx hb dX3_inHandlers_29 rfl hl (by decide) rfl (fun ls hl => ?_)
        refine lv_aload_n hx hb dX3_inHandlers_30 rfl (lv_at hl 1 rfl) ?_
        refine va_get (D := D) (ci := 3) (v := .ref (α.1 2)) (C := RX3) (T := TX3) (N := 3) hx hb hts in_X3 hown hK hP 3 (sm_gX3 σ α) rfl 0 (by decide) k_0 (fun _ h9 => h9) rfl dX3_inHandlers_31 ?_
        refine lv_iload_n hx hb dX3_inHandlers_34 rfl (lv_at hl 0 rfl) ?_
        refine sm_vi (As := [.int v10]) (rest := []) hP hK hD hE hS hA ⟨hx, hb, hml, hown, hts⟩ hl.1 (c_X2_pair l D H.size t0 σ α v10 _ hF) (cwV 1 hts wg_X3_inHandlers_X2_pair_83 rfl rfl rfl (by decide +kernel) ⟨Nat.le_of_ble_eq_true rfl, Nat.le_of_ble_eq_true rfl⟩) (va_recv hK hP (ci := 2) (q0 := 2) rfl (sm_gX2 σ α)) rfl rfl (Nat.le_of_ble_eq_true rfl) dX3_inHandlers_35 ⟨Nat.zero_le _, Nat.zero_le _⟩ (fun r12 σ11 H locs hF hP hS => ?_)
        refine lv_istore (lv' := [(4, .int r12), (3, .int v10), (0, .ref (α.1 3)), (1, .int x1), (2, .int x2)]) hx hb dX3_inHandlers_38 hl (by decide) rfl (fun ls hl => ?_)
        refine lv_aload_n hx hb dX3_inHandlers_40 rfl (lv_at hl 2 rfl) ?_
        refine va_get (D := D) (ci := 3) (v := .ref (α.1 2)) (C := RX3) (T := TX3) (N := 3) hx hb hts in_X3 hown hK hP 3 (sm_gX3 σ11 α) rfl 0 (by decide) k_0 (fun _ h9 => h9) rfl dX3_inHandlers_41 ?_
        refine lv_iload_n hx hb dX3_inHandlers_44 rfl (lv_at hl 1 rfl) ?_
        refine lv_iconst (v := 2) hx hb dX3_inHandlers_45 (by decide) ?_
        refine lv_iadd hx hb dX3_inHandlers_46 ?_
        refine sm_vi (As := [.int (v10 + 2)]) (rest := []) hP hK hD hE hS hA ⟨hx, hb, hml, hown, hts⟩ hl.1 (c_X2_pair l D H.size t0 σ11 α (v10 + 2) _ hF) (cwV 1 hts wg_X3_inHandlers_X2_pair_83 rfl rfl rfl (by decide +kernel) ⟨Nat.le_of_ble_eq_true rfl, Nat.le_of_ble_eq_true rfl⟩) (va_recv hK hP (ci := 2) (q0 := 2) rfl (sm_gX2 σ11 α)) rfl rfl (Nat.le_of_ble_eq_true rfl) dX3_inHandlers_47 ⟨Nat.zero_le _, Nat.zero_le _⟩ (fun r14 σ13 H locs hF hP hS => ?_)
        refine lv_istore (lv' := [(5, .int r14), (4, .int r12), (3, .int v10), (0, .ref (α.1 3)), (1, .int x1), (2, .int x2)]) hx hb dX3_inHandlers_50 hl (by decide) rfl (fun ls hl => ?_)
        refine lv_aload_n hx hb dX3_inHandlers_52 rfl (lv_at hl 3 rfl) ?_
        refine va_get (D := D) (ci := 3) (v := .ref (α.1 2)) (C := RX3) (T := TX3) (N := 3) hx hb hts in_X3 hown hK hP 3 (sm_gX3 σ13 α) rfl 0 (by decide) k_0 (fun _ h9 => h9) rfl dX3_inHandlers_53 ?_
        refine lv_iload_n hx hb dX3_inHandlers_56 rfl (lv_at hl 4 rfl) ?_
        refine lv_iload hx hb dX3_inHandlers_57 (lv_at hl 1 rfl) ?_
        refine sm_vi (As := [.int x1, .int r12]) (rest := []) hP hK hD hE hS hA ⟨hx, hb, hml, hown, hts⟩ hl.1 (c_X2_beginsAt l D H.size t0 σ13 α x1 r12 _ hF) (cwV 2 hts wg_X3_inHandlers_X2_beginsAt_86 rfl rfl rfl (by decide +kernel) ⟨Nat.le_of_ble_eq_true rfl, Nat.le_of_ble_eq_true rfl⟩) (va_recv hK hP (ci := 2) (q0 := 2) rfl (sm_gX2 σ13 α)) rfl rfl (Nat.le_of_ble_eq_true rfl) dX3_inHandlers_59 ⟨Nat.zero_le _, Nat.zero_le _⟩ (fun r16 σ15 H locs hF hP hS => ?_)
        refine lv_if_eq (tgt := 72) hx hb dX3_inHandlers_62 (by decide) (fun h17 => ?_) (fun h17 => ?_)
        · replace hF := hF.1 h17
          exact B72 (mp_X3_inHandlers_2 K n2) ih2 σ15 v10 hF H locs ls hP hS (lv_sub hl [2] rfl)
        · replace hF := hF.2 h17
          refine lv_iload hx hb dX3_inHandlers_65 (lv_at hl 1 rfl) ?_
          refine lv_iload hx hb dX3_inHandlers_67 (lv_at hl 0 rfl) ?_
          refine lv_icmp_lt (tgt := 74) hx hb dX3_inHandlers_69 (by decide) (fun h18 => ?_) (fun h18 => ?_)
          · replace hF := hF.1 h18
            refine lv_aload_n hx hb dX3_inHandlers_74 rfl (lv_at hl 3 rfl) ?_
            refine va_get (D := D) (ci := 3) (v := .ref (α.1 2)) (C := RX3) (T := TX3) (N := 3) hx hb hts in_X3 hown hK hP 3 (sm_gX3 σ15 α) rfl 0 (by decide) k_0 (fun _ h9 => h9) rfl dX3_inHandlers_75 ?_
            refine lv_iload_n hx hb dX3_inHandlers_78 rfl (lv_at hl 4 rfl) ?_
            refine lv_iload hx hb dX3_inHandlers_79 (lv_at hl 0 rfl) ?_
            refine sm_vi (As := [.int x1, .int r14]) (rest := []) hP hK hD hE hS hA ⟨hx, hb, hml, hown, hts⟩ hl.1 (c_X2_beginsAt l D H.size t0 σ15 α x1 r14 _ hF) (cwV 2 hts wg_X3_inHandlers_X2_beginsAt_86 rfl rfl rfl (by decide +kernel) ⟨Nat.le_of_ble_eq_true rfl, Nat.le_of_ble_eq_true rfl⟩) (va_recv hK hP (ci := 2) (q0 := 2) rfl (sm_gX2 σ15 α)) rfl rfl (Nat.le_of_ble_eq_true rfl) dX3_inHandlers_81 ⟨Nat.zero_le _, Nat.zero_le _⟩ (fun r20 σ19 H locs hF hP hS => ?_)
            refine lv_if_ne (tgt := 105) hx hb dX3_inHandlers_84 (by decide) (fun h21 => ?_) (fun h21 => ?_)
            · replace hF := hF.1 h21
              exact B105 (mp_X3_inHandlers_2 K n2) ih2 σ19 x1 x2 v10 hF H locs ls hP hS (lv_sub hl [3, 4, 5, 2] rfl)
            · replace hF := hF.2 h21
              refine lv_iload hx hb dX3_inHandlers_87 (lv_at hl 0 rfl) ?_
              refine lv_aload_n hx hb dX3_inHandlers_89 rfl (lv_at hl 3 rfl) ?_
              refine va_get (D := D) (ci := 3) (v := .ref (α.1 4)) (C := RX3) (T := TX3) (N := 3) hx hb hts in_X3 hown hK hP 3 (sm_gX3 σ19 α) rfl 2 (by decide) k_1 (fun _ h9 => h9) rfl dX3_inHandlers_90 ?_
              refine va_get (D := D) (ci := 4) (v := .ref (α.1 27)) (C := RX4) (T := TX4) (N := 12) hx hb hts in_X4 hown hK hP 4 (sm_gX4 σ19 α) rfl 9 (by decide) k_4 (fun _ h9 => h9) rfl dX3_inHandlers_93 ?_
              refine lv_iload_n hx hb dX3_inHandlers_96 rfl (lv_at hl 4 rfl) ?_
              obtain ⟨h22, hF⟩ := hF
              refine va_iald (n := (σ19.2.2.1 27)) (f := (σ19.2.2.2.1 27)) hx hb hK hP 27 16 (sm_aX27 σ19 α) (sm_yX27 α) h22 dX3_inHandlers_97 ?_
              refine lv_icmp_eq (tgt := 105) hx hb dX3_inHandlers_98 (by decide) (fun h23 => ?_) (fun h23 => ?_)
              · replace hF := hF.1 h23
                exact B105 (mp_X3_inHandlers_2 K n2) ih2 σ19 x1 x2 v10 hF H locs ls hP hS (lv_sub hl [3, 4, 5, 2] rfl)
              · replace hF := hF.2 h23
                refine lv_iload_n hx hb dX3_inHandlers_101 rfl (lv_at hl 2 rfl) ?_
                refine lv_iconst (v := 2) hx hb dX3_inHandlers_102 (by decide) ?_
                refine lv_iadd hx hb dX3_inHandlers_103 ?_
                exact W.iret (v := (v10 + 2)) hx hb hr (fun t ht hW => ⟨⟨(v10 + 2), σ19, rfl, hF, (by unfold sm_B; rw [ht]; exact hP)⟩, hS.F ht⟩) hS.2.2 dX3_inHandlers_104
          · replace hF := hF.2 h18
            exact B72 (mp_X3_inHandlers_2 K n2) ih2 σ15 v10 hF H locs ls hP hS (lv_sub hl [2] rfl)
  unfold mp_X3_inHandlers at hF
  revert hP hS
  generalize hLo : ([] : List Loc) = locs
  suffices h9 : ∀ (H : Heap) (locs : List Loc), va_P D vwCl (sm_wX σ α) H → va_S A s.heap H locs → W p l e (headSpec wp_X3_inHandlers { frames := 1, cells := 0, slots := 0, locals := 22 }).room s m ([.ref (α.1 3), .int p1] : List Value).toArray below meth c H locs 0 0 (MQ below (va_Qi K (sm_B sm_wX D α) A) ([.ref (α.1 3), .int p1] : List Value).toArray s 0 0 A) (F0 m 0 ls []) from fun hP hS => h9 s.heap locs hP hS
  intro H locs hP hS
  refine lv_iconst (v := 0) hx hb dX3_inHandlers_0 (by decide) ?_
  refine lv_istore_n (lv' := [(2, .int 0), (0, .ref (α.1 3)), (1, .int p1)]) hx hb dX3_inHandlers_1 rfl hl (by decide) rfl (fun ls hl => ?_)
  obtain ⟨n2, hF⟩ := hF
  exact B2 n2 σ p1 0 hF H locs ls hP hS (lv_sub hl [1, 2, 0] rfl)
theorem dX3_slotFits_0 : decode cX3_slotFits 0 = .ok (.aload_n 0, 1) := by decide +kernel
theorem dX3_slotFits_1 : decode cX3_slotFits 1 = .ok (.getfield 21, 3) := by decide +kernel
theorem dX3_slotFits_4 : decode cX3_slotFits 4 = .ok (.getfield 55, 3) := by decide +kernel
theorem dX3_slotFits_7 : decode cX3_slotFits 7 = .ok (.iload_n 1, 1) := by decide +kernel
theorem dX3_slotFits_8 : decode cX3_slotFits 8 = .ok (.bipush 16, 2) := by decide +kernel
theorem dX3_slotFits_10 : decode cX3_slotFits 10 = .ok (.imul, 1) := by decide +kernel
theorem dX3_slotFits_11 : decode cX3_slotFits 11 = .ok (.iload_n 2, 1) := by decide +kernel
theorem dX3_slotFits_12 : decode cX3_slotFits 12 = .ok (.iadd, 1) := by decide +kernel
theorem dX3_slotFits_13 : decode cX3_slotFits 13 = .ok (.iaload, 1) := by decide +kernel
theorem dX3_slotFits_14 : decode cX3_slotFits 14 = .ok (.istore_n 3, 1) := by decide +kernel
theorem dX3_slotFits_15 : decode cX3_slotFits 15 = .ok (.iload_n 3, 1) := by decide +kernel
theorem dX3_slotFits_16 : decode cX3_slotFits 16 = .ok (.aload_n 0, 1) := by decide +kernel
theorem dX3_slotFits_17 : decode cX3_slotFits 17 = .ok (.getfield 26, 3) := by decide +kernel
theorem dX3_slotFits_20 : decode cX3_slotFits 20 = .ok (.getfield 31, 3) := by decide +kernel
theorem dX3_slotFits_23 : decode cX3_slotFits 23 = .ok (.if_icmp .ge 16, 3) := by decide +kernel
theorem dX3_slotFits_26 : decode cX3_slotFits 26 = .ok (.aload_n 0, 1) := by decide +kernel
theorem dX3_slotFits_27 : decode cX3_slotFits 27 = .ok (.getfield 26, 3) := by decide +kernel
theorem dX3_slotFits_30 : decode cX3_slotFits 30 = .ok (.getfield 58, 3) := by decide +kernel
theorem dX3_slotFits_33 : decode cX3_slotFits 33 = .ok (.iload_n 3, 1) := by decide +kernel
theorem dX3_slotFits_34 : decode cX3_slotFits 34 = .ok (.iaload, 1) := by decide +kernel
theorem dX3_slotFits_35 : decode cX3_slotFits 35 = .ok (.iload_n 1, 1) := by decide +kernel
theorem dX3_slotFits_36 : decode cX3_slotFits 36 = .ok (.if_icmp .eq 5, 3) := by decide +kernel
theorem dX3_slotFits_39 : decode cX3_slotFits 39 = .ok (.iconst 0, 1) := by decide +kernel
theorem dX3_slotFits_40 : decode cX3_slotFits 40 = .ok (.ireturn, 1) := by decide +kernel
theorem dX3_slotFits_41 : decode cX3_slotFits 41 = .ok (.aload_n 0, 1) := by decide +kernel
theorem dX3_slotFits_42 : decode cX3_slotFits 42 = .ok (.getfield 21, 3) := by decide +kernel
theorem dX3_slotFits_45 : decode cX3_slotFits 45 = .ok (.getfield 61, 3) := by decide +kernel
theorem dX3_slotFits_48 : decode cX3_slotFits 48 = .ok (.iload_n 1, 1) := by decide +kernel
theorem dX3_slotFits_49 : decode cX3_slotFits 49 = .ok (.iaload, 1) := by decide +kernel
theorem dX3_slotFits_50 : decode cX3_slotFits 50 = .ok (.istore 4, 2) := by decide +kernel
theorem dX3_slotFits_52 : decode cX3_slotFits 52 = .ok (.iload 4, 2) := by decide +kernel
theorem dX3_slotFits_54 : decode cX3_slotFits 54 = .ok (.iconst (-1), 1) := by decide +kernel
theorem dX3_slotFits_55 : decode cX3_slotFits 55 = .ok (.if_icmp .ne 7, 3) := by decide +kernel
theorem dX3_slotFits_58 : decode cX3_slotFits 58 = .ok (.iconst (-1), 1) := by decide +kernel
theorem dX3_slotFits_59 : decode cX3_slotFits 59 = .ok (.goto 18, 3) := by decide +kernel
theorem dX3_slotFits_62 : decode cX3_slotFits 62 = .ok (.aload_n 0, 1) := by decide +kernel
theorem dX3_slotFits_63 : decode cX3_slotFits 63 = .ok (.getfield 21, 3) := by decide +kernel
theorem dX3_slotFits_66 : decode cX3_slotFits 66 = .ok (.getfield 55, 3) := by decide +kernel
theorem dX3_slotFits_69 : decode cX3_slotFits 69 = .ok (.iload 4, 2) := by decide +kernel
theorem dX3_slotFits_71 : decode cX3_slotFits 71 = .ok (.bipush 16, 2) := by decide +kernel
theorem dX3_slotFits_73 : decode cX3_slotFits 73 = .ok (.imul, 1) := by decide +kernel
theorem dX3_slotFits_74 : decode cX3_slotFits 74 = .ok (.iload_n 2, 1) := by decide +kernel
theorem dX3_slotFits_75 : decode cX3_slotFits 75 = .ok (.iadd, 1) := by decide +kernel
theorem dX3_slotFits_76 : decode cX3_slotFits 76 = .ok (.iaload, 1) := by decide +kernel
theorem dX3_slotFits_77 : decode cX3_slotFits 77 = .ok (.istore 5, 2) := by decide +kernel
theorem dX3_slotFits_79 : decode cX3_slotFits 79 = .ok (.iload 5, 2) := by decide +kernel
theorem dX3_slotFits_81 : decode cX3_slotFits 81 = .ok (.iconst (-1), 1) := by decide +kernel
theorem dX3_slotFits_82 : decode cX3_slotFits 82 = .ok (.if_icmp .eq 16, 3) := by decide +kernel
theorem dX3_slotFits_85 : decode cX3_slotFits 85 = .ok (.aload_n 0, 1) := by decide +kernel
theorem dX3_slotFits_86 : decode cX3_slotFits 86 = .ok (.getfield 26, 3) := by decide +kernel
theorem dX3_slotFits_89 : decode cX3_slotFits 89 = .ok (.iload_n 3, 1) := by decide +kernel
theorem dX3_slotFits_90 : decode cX3_slotFits 90 = .ok (.iload 5, 2) := by decide +kernel
theorem dX3_slotFits_92 : decode cX3_slotFits 92 = .ok (.invokevirtual 64, 3) := by decide +kernel
theorem dX3_slotFits_95 : decode cX3_slotFits 95 = .ok (.ifCond .eq 7, 3) := by decide +kernel
theorem dX3_slotFits_98 : decode cX3_slotFits 98 = .ok (.iconst 1, 1) := by decide +kernel
theorem dX3_slotFits_99 : decode cX3_slotFits 99 = .ok (.goto 4, 3) := by decide +kernel
theorem dX3_slotFits_102 : decode cX3_slotFits 102 = .ok (.iconst 0, 1) := by decide +kernel
theorem dX3_slotFits_103 : decode cX3_slotFits 103 = .ok (.ireturn, 1) := by decide +kernel
def wp_X3_slotFits : List Cond := .code yX3_slotFits cX3_slotFits 6 (some .boolean) :: (((([.fieldLink RX3 26 "SteadyMachine$Linker" "methods" "LSteadyMachine$Methods;", .fieldLink RX3 21 "SteadyMachine$Linker" "classes" "LSteadyMachine$Classes;", .fieldLink RX3 55 "SteadyMachine$Classes" "slot" "[I", .fieldLink RX3 31 "SteadyMachine$Methods" "many" "I", .fieldLink RX3 58 "SteadyMachine$Methods" "owner" "[I", .fieldLink RX3 61 "SteadyMachine$Classes" "upper" "[I"] ++ (wsV RX3 64 RX4 yX4_sameButFirst wp_X4_sameButFirst)) ++ wsX00) ++ wsX30) ++ wsX40)
theorem wq_X3_slotFits : wp_X3_slotFits.all goodWord = true := wa_c rfl (wa_a (wa_a (wa_a (wa_a (by decide +kernel) (wa_V wq_X4_sameButFirst)) uq_X0) uq_X3) uq_X4)
theorem wt_X3_slotFits : GoodIn lw_tbl wp_X3_slotFits := wm_c (List.mem_of_getElem? (i := 714) (by decide +kernel)) rfl (wm_a (wm_a (wm_a (wm_a (goodIn_r _ [361, 360, 187, 220, 227, 176] (by decide +kernel) (by decide +kernel)) (wm_a (goodIn_r _ [715, 716, 717, 139] (by decide +kernel) (by decide +kernel)) wt_X4_sameButFirst)) ut_X0) ut_X3) ut_X4)
theorem wg_X3_slotFits_X4_sameButFirst_64 : GoodIn wp_X3_slotFits (wsV RX3 64 RX4 yX4_sameButFirst wp_X4_sameButFirst) := goodIn_sub (fun w h => List.mem_cons_of_mem _ (List.mem_append_left _ (List.mem_append_left _ (List.mem_append_left _ (List.mem_append_right _ h))))) (wa_V wq_X4_sameButFirst)
theorem wi_X3_slotFits_X0 : ∀ w ∈ wsX00, w ∈ wp_X3_slotFits := fun w h => List.mem_cons_of_mem _ (List.mem_append_left _ (List.mem_append_left _ (List.mem_append_right _ h)))
theorem wi_X3_slotFits_X3 : ∀ w ∈ wsX30, w ∈ wp_X3_slotFits := fun w h => List.mem_cons_of_mem _ (List.mem_append_left _ (List.mem_append_right _ h))
theorem wi_X3_slotFits_X4 : ∀ w ∈ wsX40, w ∈ wp_X3_slotFits := fun w h => List.mem_cons_of_mem _ (List.mem_append_right _ h)
set_option maxHeartbeats 4000000 in
set_option maxRecDepth 100000 in
theorem c_X3_slotFits (l : Launch) (D : va_G) (sz t0 : Nat) (σ : sm_S) (α : sm_A) (p1 : Int32) (p2 : Int32) (K : Int32 → sm_S → Prop) (hF : mp_X3_slotFits σ p1 p2 K) : Met l yX3_slotFits wp_X3_slotFits { frames := 1, cells := 0, slots := 0, locals := 23 } (sm_P sm_wX sm_tX 37 D sz t0 σ α [.ref (α.1 3), .int p1, .int p2]) (va_Qi K (sm_B sm_wX D α) (sm_a α 37 sz)) 0 0 (sm_a α 37 sz) := by
  refine Met.ofW (cc := cX3_slotFits) (maxL := 6) (ret := (some .boolean)) (by decide) rfl ?_
  intro p e s m args below meth c s₁ B hml hv
  obtain ⟨rfl, hsz, hP, hK, hD0, hE⟩ := hv
  have hx := B.exec
  have hb := B.bytes
  have hr := B.returns
  have hts := atoms_spec (ws := wp_X3_slotFits) B.pre
  have hown : s.vm.findClass RX3 = some m.cls := findClass_of_methodNamed B.named
  have hlocks := B.notSynchronized
  subst hsz
  have hD : sm_D (sm_a α 37 s.heap.size) α 37 := hD0.own
  have hA : ∀ q : Nat, s.heap.size ≤ q → sm_a α 37 s.heap.size q := fun q h => Or.inr h
  generalize hAe : sm_a α 37 s.heap.size = A at hD hA hE ⊢
  have hS : va_S A s.heap s.heap [] := va_S.rf
  have in_X0 : ∀ w ∈ wsX00, w ∈ wp_X3_slotFits := wi_X3_slotFits_X0
  have in_X3 : ∀ w ∈ wsX30, w ∈ wp_X3_slotFits := wi_X3_slotFits_X3
  have in_X4 : ∀ w ∈ wsX40, w ∈ wp_X3_slotFits := wi_X3_slotFits_X4
  have k_0 := hts (.fieldLink RX3 26 "SteadyMachine$Linker" "methods" "LSteadyMachine$Methods;") (by decide +kernel)
  have k_1 := hts (.fieldLink RX3 21 "SteadyMachine$Linker" "classes" "LSteadyMachine$Classes;") (by decide +kernel)
  have k_2 := hts (.fieldLink RX3 55 "SteadyMachine$Classes" "slot" "[I") (by decide +kernel)
  have k_3 := hts (.fieldLink RX3 31 "SteadyMachine$Methods" "many" "I") (by decide +kernel)
  have k_4 := hts (.fieldLink RX3 58 "SteadyMachine$Methods" "owner" "[I") (by decide +kernel)
  have k_5 := hts (.fieldLink RX3 61 "SteadyMachine$Classes" "upper" "[I") (by decide +kernel)
  have hl := lv_entry ([.ref (α.1 3), .int p1, .int p2]) (n := 6) (Nat.le_of_ble_eq_true rfl)
  rw [lg_entry_eq]
  generalize (lg_sl ([.ref (α.1 3), .int p1, .int p2]) ++ List.replicate (6 - (lg_sl ([.ref (α.1 3), .int p1, .int p2])).length) Slot.unset).toArray = ls at hl ⊢
  have hl : lv_has ls 6 [(0, .ref (α.1 3)), (1, .int p1), (2, .int p2)] := hl
  have B103 : ∀ (σ : sm_S) (y0 : Int32), mp_X3_slotFits_103 K σ y0 → sm_J p l e (headSpec wp_X3_slotFits { frames := 1, cells := 0, slots := 0, locals := 23 }).room s m ([.ref (α.1 3), .int p1, .int p2] : List Value).toArray below meth c (MQ below (va_Qi K (sm_B sm_wX D α) A) ([.ref (α.1 3), .int p1, .int p2] : List Value).toArray s 0 0 A) D A 6 (sm_wX σ α) 103 [] [.int y0] := by
    intro σ y0 hF H locs ls hP hS hl
    unfold mp_X3_slotFits_103 at hF
    obtain ⟨h1, hF⟩ := hF
    exact W.zret (v := y0) hx hb hr h1.1 (fun t ht hW => ⟨⟨y0, σ, rfl, hF, (by unfold sm_B; rw [ht]; exact hP)⟩, hS.F ht⟩) hS.2.2 dX3_slotFits_103
  have B98 : ∀ (σ : sm_S), mp_X3_slotFits_98 K σ → sm_J p l e (headSpec wp_X3_slotFits { frames := 1, cells := 0, slots := 0, locals := 23 }).room s m ([.ref (α.1 3), .int p1, .int p2] : List Value).toArray below meth c (MQ below (va_Qi K (sm_B sm_wX D α) A) ([.ref (α.1 3), .int p1, .int p2] : List Value).toArray s 0 0 A) D A 6 (sm_wX σ α) 98 [] [] := by
    intro σ hF H locs ls hP hS hl
    unfold mp_X3_slotFits_98 at hF
    refine lv_iconst (v := 1) hx hb dX3_slotFits_98 (by decide) ?_
    refine lv_goto (tgt := 103) hx hb dX3_slotFits_99 (by decide) ?_
    exact B103 σ 1 hF H locs ls hP hS (lv_sub hl [] rfl)
  have B77 : ∀ (σ : sm_S) (x3 : Int32) (y0 : Int32), mp_X3_slotFits_77 K σ x3 y0 → sm_J p l e (headSpec wp_X3_slotFits { frames := 1, cells := 0, slots := 0, locals := 23 }).room s m ([.ref (α.1 3), .int p1, .int p2] : List Value).toArray below meth c (MQ below (va_Qi K (sm_B sm_wX D α) A) ([.ref (α.1 3), .int p1, .int p2] : List Value).toArray s 0 0 A) D A 6 (sm_wX σ α) 77 [(0, .ref (α.1 3)), (3, .int x3)] [.int y0] := by
    intro σ x3 y0 hF H locs ls hP hS hl
    unfold mp_X3_slotFits_77 at hF
    refine lv_istore (lv' := [(5, .int y0), (0, .ref (α.1 3)), (3, .int x3)]) hx hb dX3_slotFits_77 hl (by decide) rfl (fun ls hl => ?_)
    refine lv_iload hx hb dX3_slotFits_79 (lv_at hl 0 rfl) ?_
    refine lv_iconst (v := -1) hx hb dX3_slotFits_81 (by decide) ?_
    refine lv_icmp_eq (tgt := 98) hx hb dX3_slotFits_82 (by decide) (fun h2 => ?_) (fun h2 => ?_)
    · replace hF := hF.1 h2
      exact B98 σ hF H locs ls hP hS (lv_sub hl [] rfl)
    · replace hF := hF.2 h2
      refine lv_aload_n hx hb dX3_slotFits_85 rfl (lv_at hl 1 rfl) ?_
      refine va_get (D := D) (ci := 3) (v := .ref (α.1 4)) (C := RX3) (T := TX3) (N := 3) hx hb hts in_X3 hown hK hP 3 (sm_gX3 σ α) rfl 2 (by decide) k_0 (fun _ h9 => h9) rfl dX3_slotFits_86 ?_
      refine lv_iload_n hx hb dX3_slotFits_89 rfl (lv_at hl 2 rfl) ?_
      refine lv_iload hx hb dX3_slotFits_90 (lv_at hl 0 rfl) ?_
      refine sm_vi (As := [.int x3, .int y0]) (rest := []) hP hK hD hE hS hA ⟨hx, hb, hml, hown, hts⟩ hl.1 (c_X4_sameButFirst l D H.size t0 σ α x3 y0 _ hF) (cwV 2 hts wg_X3_slotFits_X4_sameButFirst_64 rfl rfl rfl (by decide +kernel) ⟨Nat.le_of_ble_eq_true rfl, Nat.le_of_ble_eq_true rfl⟩) (va_recv hK hP (ci := 4) (q0 := 4) rfl (sm_gX4 σ α)) rfl rfl (Nat.le_of_ble_eq_true rfl) dX3_slotFits_92 ⟨Nat.zero_le _, Nat.zero_le _⟩ (fun r4 σ3 H locs hF hP hS => ?_)
      refine lv_if_eq (tgt := 102) hx hb dX3_slotFits_95 (by decide) (fun h5 => ?_) (fun h5 => ?_)
      · replace hF := hF.1 h5
        refine lv_iconst (v := 0) hx hb dX3_slotFits_102 (by decide) ?_
        exact B103 σ3 0 hF H locs ls hP hS (lv_sub hl [] rfl)
      · replace hF := hF.2 h5
        exact B98 σ3 hF H locs ls hP hS (lv_sub hl [] rfl)
  have B39 : ∀ (σ : sm_S), mp_X3_slotFits_39 K σ → sm_J p l e (headSpec wp_X3_slotFits { frames := 1, cells := 0, slots := 0, locals := 23 }).room s m ([.ref (α.1 3), .int p1, .int p2] : List Value).toArray below meth c (MQ below (va_Qi K (sm_B sm_wX D α) A) ([.ref (α.1 3), .int p1, .int p2] : List Value).toArray s 0 0 A) D A 6 (sm_wX σ α) 39 [] [] := by
    intro σ hF H locs ls hP hS hl
    unfold mp_X3_slotFits_39 at hF
    refine lv_iconst (v := 0) hx hb dX3_slotFits_39 (by decide) ?_
    exact W.zret (v := 0) hx hb hr sm_z0.1 (fun t ht hW => ⟨⟨0, σ, rfl, hF, (by unfold sm_B; rw [ht]; exact hP)⟩, hS.F ht⟩) hS.2.2 dX3_slotFits_40
  unfold mp_X3_slotFits at hF
  revert hP hS
  generalize hLo : ([] : List Loc) = locs
  suffices h9 : ∀ (H : Heap) (locs : List Loc), va_P D vwCl (sm_wX σ α) H → va_S A s.heap H locs → W p l e (headSpec wp_X3_slotFits { frames := 1, cells := 0, slots := 0, locals := 23 }).room s m ([.ref (α.1 3), .int p1, .int p2] : List Value).toArray below meth c H locs 0 0 (MQ below (va_Qi K (sm_B sm_wX D α) A) ([.ref (α.1 3), .int p1, .int p2] : List Value).toArray s 0 0 A) (F0 m 0 ls []) from fun hP hS => h9 s.heap locs hP hS
  intro H locs hP hS
  refine lv_aload_n hx hb dX3_slotFits_0 rfl (lv_at hl 0 rfl) ?_
  refine va_get (D := D) (ci := 3) (v := .ref (α.1 0)) (C := RX3) (T := TX3) (N := 3) hx hb hts in_X3 hown hK hP 3 (sm_gX3 σ α) rfl 1 (by decide) k_1 (fun _ h9 => h9) rfl dX3_slotFits_1 ?_
  refine va_get (D := D) (ci := 0) (v := .ref (α.1 14)) (C := RX0) (T := TX0) (N := 7) hx hb hts in_X0 hown hK hP 0 (sm_gX0 σ α) rfl 4 (by decide) k_2 (fun _ h9 => h9) rfl dX3_slotFits_4 ?_
  refine lv_iload_n hx hb dX3_slotFits_7 rfl (lv_at hl 1 rfl) ?_
  refine lv_bipush (v := 16) hx hb dX3_slotFits_8 (by decide) ?_
  refine lv_imul hx hb dX3_slotFits_10 ?_
  refine lv_iload_n hx hb dX3_slotFits_11 rfl (lv_at hl 2 rfl) ?_
  refine lv_iadd hx hb dX3_slotFits_12 ?_
  obtain ⟨h6, hF⟩ := hF
  refine va_iald (n := (σ.2.2.1 14)) (f := (σ.2.2.2.1 14)) hx hb hK hP 14 3 (sm_aX14 σ α) (sm_yX14 α) h6 dX3_slotFits_13 ?_
  refine lv_topi (fun v7 ev7 => ?_)
  replace hF := hF v7 ev7
  refine lv_istore_n (lv' := [(3, .int v7), (0, .ref (α.1 3)), (1, .int p1), (2, .int p2)]) hx hb dX3_slotFits_14 rfl hl (by decide) rfl (fun ls hl => ?_)
  refine lv_iload_n hx hb dX3_slotFits_15 rfl (lv_at hl 0 rfl) ?_
  refine lv_aload_n hx hb dX3_slotFits_16 rfl (lv_at hl 1 rfl) ?_
  refine va_get (D := D) (ci := 3) (v := .ref (α.1 4)) (C := RX3) (T := TX3) (N := 3) hx hb hts in_X3 hown hK hP 3 (sm_gX3 σ α) rfl 2 (by decide) k_0 (fun _ h9 => h9) rfl dX3_slotFits_17 ?_
  refine va_get (D := D) (ci := 4) (v := .int (σ.1 16)) (C := RX4) (T := TX4) (N := 12) hx hb hts in_X4 hown hK hP 4 (sm_gX4 σ α) rfl 0 (by decide) k_3 (fun _ h9 => h9) rfl dX3_slotFits_20 ?_
  refine lv_icmp_ge (tgt := 39) hx hb dX3_slotFits_23 (by decide) (fun h8 => ?_) (fun h8 => ?_)
  · replace hF := hF.1 h8
    exact B39 σ hF H locs ls hP hS (lv_sub hl [] rfl)
  · replace hF := hF.2 h8
    refine lv_aload_n hx hb dX3_slotFits_26 rfl (lv_at hl 1 rfl) ?_
    refine va_get (D := D) (ci := 3) (v := .ref (α.1 4)) (C := RX3) (T := TX3) (N := 3) hx hb hts in_X3 hown hK hP 3 (sm_gX3 σ α) rfl 2 (by decide) k_0 (fun _ h9 => h9) rfl dX3_slotFits_27 ?_
    refine va_get (D := D) (ci := 4) (v := .ref (α.1 20)) (C := RX4) (T := TX4) (N := 12) hx hb hts in_X4 hown hK hP 4 (sm_gX4 σ α) rfl 2 (by decide) k_4 (fun _ h9 => h9) rfl dX3_slotFits_30 ?_
    refine lv_iload_n hx hb dX3_slotFits_33 rfl (lv_at hl 0 rfl) ?_
    obtain ⟨h9, hF⟩ := hF
    refine va_iald (n := (σ.2.2.1 20)) (f := (σ.2.2.2.1 20)) hx hb hK hP 20 9 (sm_aX20 σ α) (sm_yX20 α) h9 dX3_slotFits_34 ?_
    refine lv_iload_n hx hb dX3_slotFits_35 rfl (lv_at hl 2 rfl) ?_
    refine lv_icmp_eq (tgt := 41) hx hb dX3_slotFits_36 (by decide) (fun h10 => ?_) (fun h10 => ?_)
    · replace hF := hF.1 h10
      refine lv_aload_n hx hb dX3_slotFits_41 rfl (lv_at hl 1 rfl) ?_
      refine va_get (D := D) (ci := 3) (v := .ref (α.1 0)) (C := RX3) (T := TX3) (N := 3) hx hb hts in_X3 hown hK hP 3 (sm_gX3 σ α) rfl 1 (by decide) k_1 (fun _ h9 => h9) rfl dX3_slotFits_42 ?_
      refine va_get (D := D) (ci := 0) (v := .ref (α.1 11)) (C := RX0) (T := TX0) (N := 7) hx hb hts in_X0 hown hK hP 0 (sm_gX0 σ α) rfl 1 (by decide) k_5 (fun _ h9 => h9) rfl dX3_slotFits_45 ?_
      refine lv_iload_n hx hb dX3_slotFits_48 rfl (lv_at hl 2 rfl) ?_
      obtain ⟨h11, hF⟩ := hF
      refine va_iald (n := (σ.2.2.1 11)) (f := (σ.2.2.2.1 11)) hx hb hK hP 11 0 (sm_aX11 σ α) (sm_yX11 α) h11 dX3_slotFits_49 ?_
      refine lv_topi (fun v12 ev12 => ?_)
      replace hF := hF v12 ev12
      refine lv_istore (lv' := [(4, .int v12), (3, .int v7), (0, .ref (α.1 3)), (1, .int p1), (2, .int p2)]) hx hb dX3_slotFits_50 hl (by decide) rfl (fun ls hl => ?_)
      refine lv_iload hx hb dX3_slotFits_52 (lv_at hl 0 rfl) ?_
      refine lv_iconst (v := -1) hx hb dX3_slotFits_54 (by decide) ?_
      refine lv_icmp_ne (tgt := 62) hx hb dX3_slotFits_55 (by decide) (fun h13 => ?_) (fun h13 => ?_)
      · replace hF := hF.1 h13
        refine lv_aload_n hx hb dX3_slotFits_62 rfl (lv_at hl 2 rfl) ?_
        refine va_get (D := D) (ci := 3) (v := .ref (α.1 0)) (C := RX3) (T := TX3) (N := 3) hx hb hts in_X3 hown hK hP 3 (sm_gX3 σ α) rfl 1 (by decide) k_1 (fun _ h9 => h9) rfl dX3_slotFits_63 ?_
        refine va_get (D := D) (ci := 0) (v := .ref (α.1 14)) (C := RX0) (T := TX0) (N := 7) hx hb hts in_X0 hown hK hP 0 (sm_gX0 σ α) rfl 4 (by decide) k_2 (fun _ h9 => h9) rfl dX3_slotFits_66 ?_
        refine lv_iload hx hb dX3_slotFits_69 (lv_at hl 0 rfl) ?_
        refine lv_bipush (v := 16) hx hb dX3_slotFits_71 (by decide) ?_
        refine lv_imul hx hb dX3_slotFits_73 ?_
        refine lv_iload_n hx hb dX3_slotFits_74 rfl (lv_at hl 4 rfl) ?_
        refine lv_iadd hx hb dX3_slotFits_75 ?_
        obtain ⟨h14, hF⟩ := hF
        refine va_iald (n := (σ.2.2.1 14)) (f := (σ.2.2.2.1 14)) hx hb hK hP 14 3 (sm_aX14 σ α) (sm_yX14 α) h14 dX3_slotFits_76 ?_
        exact B77 σ v7 ((σ.2.2.2.1 14) ((v12 * 16) + p2).toNatClampNeg) hF H locs ls hP hS (lv_sub hl [2, 1] rfl)
      · replace hF := hF.2 h13
        refine lv_iconst (v := -1) hx hb dX3_slotFits_58 (by decide) ?_
        refine lv_goto (tgt := 77) hx hb dX3_slotFits_59 (by decide) ?_
        exact B77 σ v7 (-1) hF H locs ls hP hS (lv_sub hl [2, 1] rfl)
    · replace hF := hF.2 h10
      exact B39 σ hF H locs ls hP hS (lv_sub hl [] rfl)
theorem dX3_inSlots_0 : decode cX3_inSlots 0 = .ok (.iconst 0, 1) := by decide +kernel
theorem dX3_inSlots_1 : decode cX3_inSlots 1 = .ok (.istore_n 1, 1) := by decide +kernel
theorem dX3_inSlots_2 : decode cX3_inSlots 2 = .ok (.iload_n 1, 1) := by decide +kernel
theorem dX3_inSlots_3 : decode cX3_inSlots 3 = .ok (.aload_n 0, 1) := by decide +kernel
theorem dX3_inSlots_4 : decode cX3_inSlots 4 = .ok (.getfield 21, 3) := by decide +kernel
theorem dX3_inSlots_7 : decode cX3_inSlots 7 = .ok (.getfield 44, 3) := by decide +kernel
theorem dX3_inSlots_10 : decode cX3_inSlots 10 = .ok (.if_icmp .ge 65, 3) := by decide +kernel
theorem dX3_inSlots_13 : decode cX3_inSlots 13 = .ok (.iconst 0, 1) := by decide +kernel
theorem dX3_inSlots_14 : decode cX3_inSlots 14 = .ok (.istore_n 2, 1) := by decide +kernel
theorem dX3_inSlots_15 : decode cX3_inSlots 15 = .ok (.iload_n 2, 1) := by decide +kernel
theorem dX3_inSlots_16 : decode cX3_inSlots 16 = .ok (.bipush 16, 2) := by decide +kernel
theorem dX3_inSlots_18 : decode cX3_inSlots 18 = .ok (.if_icmp .ge 51, 3) := by decide +kernel
theorem dX3_inSlots_21 : decode cX3_inSlots 21 = .ok (.aload_n 0, 1) := by decide +kernel
theorem dX3_inSlots_22 : decode cX3_inSlots 22 = .ok (.getfield 21, 3) := by decide +kernel
theorem dX3_inSlots_25 : decode cX3_inSlots 25 = .ok (.getfield 47, 3) := by decide +kernel
theorem dX3_inSlots_28 : decode cX3_inSlots 28 = .ok (.iload_n 1, 1) := by decide +kernel
theorem dX3_inSlots_29 : decode cX3_inSlots 29 = .ok (.bipush 16, 2) := by decide +kernel
theorem dX3_inSlots_31 : decode cX3_inSlots 31 = .ok (.imul, 1) := by decide +kernel
theorem dX3_inSlots_32 : decode cX3_inSlots 32 = .ok (.iload_n 2, 1) := by decide +kernel
theorem dX3_inSlots_33 : decode cX3_inSlots 33 = .ok (.iadd, 1) := by decide +kernel
theorem dX3_inSlots_34 : decode cX3_inSlots 34 = .ok (.iaload, 1) := by decide +kernel
theorem dX3_inSlots_35 : decode cX3_inSlots 35 = .ok (.iconst (-1), 1) := by decide +kernel
theorem dX3_inSlots_36 : decode cX3_inSlots 36 = .ok (.if_icmp .eq 27, 3) := by decide +kernel
theorem dX3_inSlots_39 : decode cX3_inSlots 39 = .ok (.aload_n 0, 1) := by decide +kernel
theorem dX3_inSlots_40 : decode cX3_inSlots 40 = .ok (.iload_n 1, 1) := by decide +kernel
theorem dX3_inSlots_41 : decode cX3_inSlots 41 = .ok (.iload_n 2, 1) := by decide +kernel
theorem dX3_inSlots_42 : decode cX3_inSlots 42 = .ok (.invokevirtual 51, 3) := by decide +kernel
theorem dX3_inSlots_45 : decode cX3_inSlots 45 = .ok (.ifCond .ne 18, 3) := by decide +kernel
theorem dX3_inSlots_48 : decode cX3_inSlots 48 = .ok (.aload_n 0, 1) := by decide +kernel
theorem dX3_inSlots_49 : decode cX3_inSlots 49 = .ok (.getfield 21, 3) := by decide +kernel
theorem dX3_inSlots_52 : decode cX3_inSlots 52 = .ok (.getfield 47, 3) := by decide +kernel
theorem dX3_inSlots_55 : decode cX3_inSlots 55 = .ok (.iload_n 1, 1) := by decide +kernel
theorem dX3_inSlots_56 : decode cX3_inSlots 56 = .ok (.bipush 16, 2) := by decide +kernel
theorem dX3_inSlots_58 : decode cX3_inSlots 58 = .ok (.imul, 1) := by decide +kernel
theorem dX3_inSlots_59 : decode cX3_inSlots 59 = .ok (.iload_n 2, 1) := by decide +kernel
theorem dX3_inSlots_60 : decode cX3_inSlots 60 = .ok (.iadd, 1) := by decide +kernel
theorem dX3_inSlots_61 : decode cX3_inSlots 61 = .ok (.iaload, 1) := by decide +kernel
theorem dX3_inSlots_62 : decode cX3_inSlots 62 = .ok (.ireturn, 1) := by decide +kernel
theorem dX3_inSlots_63 : decode cX3_inSlots 63 = .ok (.iinc 2 1, 3) := by decide +kernel
theorem dX3_inSlots_66 : decode cX3_inSlots 66 = .ok (.goto (-51), 3) := by decide +kernel
theorem dX3_inSlots_69 : decode cX3_inSlots 69 = .ok (.iinc 1 1, 3) := by decide +kernel
theorem dX3_inSlots_72 : decode cX3_inSlots 72 = .ok (.goto (-70), 3) := by decide +kernel
theorem dX3_inSlots_75 : decode cX3_inSlots 75 = .ok (.iconst (-1), 1) := by decide +kernel
theorem dX3_inSlots_76 : decode cX3_inSlots 76 = .ok (.ireturn, 1) := by decide +kernel
def wp_X3_inSlots : List Cond := .code yX3_inSlots cX3_inSlots 3 (some .int) :: ((([.fieldLink RX3 21 "SteadyMachine$Linker" "classes" "LSteadyMachine$Classes;", .fieldLink RX3 47 "SteadyMachine$Classes" "slotPlace" "[I", .fieldLink RX3 44 "SteadyMachine$Classes" "many" "I"] ++ (wsV RX3 51 RX3 yX3_slotFits wp_X3_slotFits)) ++ wsX00) ++ wsX30)
theorem wq_X3_inSlots : wp_X3_inSlots.all goodWord = true := wa_c rfl (wa_a (wa_a (wa_a (by decide +kernel) (wa_V wq_X3_slotFits)) uq_X0) uq_X3)
theorem wt_X3_inSlots : GoodIn lw_tbl wp_X3_inSlots := wm_c (List.mem_of_getElem? (i := 710) (by decide +kernel)) rfl (wm_a (wm_a (wm_a (goodIn_r _ [360, 192, 173] (by decide +kernel) (by decide +kernel)) (wm_a (goodIn_r _ [711, 713, 12, 141] (by decide +kernel) (by decide +kernel)) wt_X3_slotFits)) ut_X0) ut_X3)
theorem wg_X3_inSlots_X3_slotFits_51 : GoodIn wp_X3_inSlots (wsV RX3 51 RX3 yX3_slotFits wp_X3_slotFits) := goodIn_sub (fun w h => List.mem_cons_of_mem _ (List.mem_append_left _ (List.mem_append_left _ (List.mem_append_right _ h)))) (wa_V wq_X3_slotFits)
theorem wi_X3_inSlots_X0 : ∀ w ∈ wsX00, w ∈ wp_X3_inSlots := fun w h => List.mem_cons_of_mem _ (List.mem_append_left _ (List.mem_append_right _ h))
theorem wi_X3_inSlots_X3 : ∀ w ∈ wsX30, w ∈ wp_X3_inSlots := fun w h => List.mem_cons_of_mem _ (List.mem_append_right _ h)
set_option maxHeartbeats 4000000 in
set_option maxRecDepth 100000 in
theorem c_X3_inSlots (l : Launch) (D : va_G) (sz t0 : Nat) (σ : sm_S) (α : sm_A) (K : Int32 → sm_S → Prop) (hF : mp_X3_inSlots σ K) : Met l yX3_inSlots wp_X3_inSlots { frames := 2, cells := 0, slots := 0, locals := 48 } (sm_P sm_wX sm_tX 37 D sz t0 σ α [.ref (α.1 3)]) (va_Qi K (sm_B sm_wX D α) (sm_a α 37 sz)) 0 0 (sm_a α 37 sz) := by
  refine Met.ofW (cc := cX3_inSlots) (maxL := 3) (ret := (some .int)) (by decide) rfl ?_
  intro p e s m args below meth c s₁ B hml hv
  obtain ⟨rfl, hsz, hP, hK, hD0, hE⟩ := hv
  have hx := B.exec
  have hb := B.bytes
  have hr := B.returns
  have hts := atoms_spec (ws := wp_X3_inSlots) B.pre
  have hown : s.vm.findClass RX3 = some m.cls := findClass_of_methodNamed B.named
  have hlocks := B.notSynchronized
  subst hsz
  have hD : sm_D (sm_a α 37 s.heap.size) α 37 := hD0.own
  have hA : ∀ q : Nat, s.heap.size ≤ q → sm_a α 37 s.heap.size q := fun q h => Or.inr h
  generalize hAe : sm_a α 37 s.heap.size = A at hD hA hE ⊢
  have hS : va_S A s.heap s.heap [] := va_S.rf
  have in_X0 : ∀ w ∈ wsX00, w ∈ wp_X3_inSlots := wi_X3_inSlots_X0
  have in_X3 : ∀ w ∈ wsX30, w ∈ wp_X3_inSlots := wi_X3_inSlots_X3
  have k_0 := hts (.fieldLink RX3 21 "SteadyMachine$Linker" "classes" "LSteadyMachine$Classes;") (by decide +kernel)
  have k_1 := hts (.fieldLink RX3 47 "SteadyMachine$Classes" "slotPlace" "[I") (by decide +kernel)
  have k_2 := hts (.fieldLink RX3 44 "SteadyMachine$Classes" "many" "I") (by decide +kernel)
  have hl := lv_entry ([.ref (α.1 3)]) (n := 3) (Nat.le_of_ble_eq_true rfl)
  rw [lg_entry_eq]
  generalize (lg_sl ([.ref (α.1 3)]) ++ List.replicate (3 - (lg_sl ([.ref (α.1 3)])).length) Slot.unset).toArray = ls at hl ⊢
  have hl : lv_has ls 3 [(0, .ref (α.1 3))] := hl
  have B63 : ∀ (L2 : sm_S → Int32 → Prop) (hL2 : ∀ (σ : sm_S) (x1 : Int32), L2 σ x1 → sm_J p l e (headSpec wp_X3_inSlots { frames := 2, cells := 0, slots := 0, locals := 48 }).room s m ([.ref (α.1 3)] : List Value).toArray below meth c (MQ below (va_Qi K (sm_B sm_wX D α) A) ([.ref (α.1 3)] : List Value).toArray s 0 0 A) D A 3 (sm_wX σ α) 2 [(0, .ref (α.1 3)), (1, .int x1)] []) (L15 : sm_S → Int32 → Int32 → Prop) (hL15 : ∀ (σ : sm_S) (x1 : Int32) (x2 : Int32), L15 σ x1 x2 → sm_J p l e (headSpec wp_X3_inSlots { frames := 2, cells := 0, slots := 0, locals := 48 }).room s m ([.ref (α.1 3)] : List Value).toArray below meth c (MQ below (va_Qi K (sm_B sm_wX D α) A) ([.ref (α.1 3)] : List Value).toArray s 0 0 A) D A 3 (sm_wX σ α) 15 [(0, .ref (α.1 3)), (1, .int x1), (2, .int x2)] []) (σ : sm_S) (x1 : Int32) (x2 : Int32), mp_X3_inSlots_63 L2 L15 K σ x1 x2 → sm_J p l e (headSpec wp_X3_inSlots { frames := 2, cells := 0, slots := 0, locals := 48 }).room s m ([.ref (α.1 3)] : List Value).toArray below meth c (MQ below (va_Qi K (sm_B sm_wX D α) A) ([.ref (α.1 3)] : List Value).toArray s 0 0 A) D A 3 (sm_wX σ α) 63 [(0, .ref (α.1 3)), (1, .int x1), (2, .int x2)] [] := by
    intro L2 hL2 L15 hL15 σ x1 x2 hF H locs ls hP hS hl
    unfold mp_X3_inSlots_63 at hF
    obtain ⟨v1, ev1⟩ : ∃ y : Int32, y = x2 + 1 := ⟨_, rfl⟩
    replace hF := hF v1 ev1
    refine lv_iinc (v := v1) (lv' := [(2, .int v1), (0, .ref (α.1 3)), (1, .int x1)]) hx hb dX3_inSlots_63 hl (k := 2) rfl (by rw [ev1]; rfl) (by decide) rfl (fun ls hl => ?_)
    refine lv_goto (tgt := 15) hx hb dX3_inSlots_66 (by decide) ?_
    exact hL15 σ x1 v1 hF H locs ls hP hS (lv_sub hl [1, 2, 0] rfl)
  have B15 : ∀ (L2 : sm_S → Int32 → Prop) (hL2 : ∀ (σ : sm_S) (x1 : Int32), L2 σ x1 → sm_J p l e (headSpec wp_X3_inSlots { frames := 2, cells := 0, slots := 0, locals := 48 }).room s m ([.ref (α.1 3)] : List Value).toArray below meth c (MQ below (va_Qi K (sm_B sm_wX D α) A) ([.ref (α.1 3)] : List Value).toArray s 0 0 A) D A 3 (sm_wX σ α) 2 [(0, .ref (α.1 3)), (1, .int x1)] []) (n : Nat) (σ : sm_S) (x1 : Int32) (x2 : Int32), mp_X3_inSlots_15 L2 K n σ x1 x2 → sm_J p l e (headSpec wp_X3_inSlots { frames := 2, cells := 0, slots := 0, locals := 48 }).room s m ([.ref (α.1 3)] : List Value).toArray below meth c (MQ below (va_Qi K (sm_B sm_wX D α) A) ([.ref (α.1 3)] : List Value).toArray s 0 0 A) D A 3 (sm_wX σ α) 15 [(0, .ref (α.1 3)), (1, .int x1), (2, .int x2)] [] := by
    intro L2 hL2 n15
    induction n15 with
    | zero =>
      intro σ x1 x2 hF
      exact hF.elim
    | succ n15 ih15 =>
      intro σ x1 x2 hF H locs ls hP hS hl
      unfold mp_X3_inSlots_15 at hF
      refine lv_iload_n hx hb dX3_inSlots_15 rfl (lv_at hl 2 rfl) ?_
      refine lv_bipush (v := 16) hx hb dX3_inSlots_16 (by decide) ?_
      refine lv_icmp_ge (tgt := 69) hx hb dX3_inSlots_18 (by decide) (fun h2 => ?_) (fun h2 => ?_)
      · replace hF := hF.1 h2
        obtain ⟨v3, ev3⟩ : ∃ y : Int32, y = x1 + 1 := ⟨_, rfl⟩
        replace hF := hF v3 ev3
        refine lv_iinc (v := v3) (lv' := [(1, .int v3), (0, .ref (α.1 3)), (2, .int x2)]) hx hb dX3_inSlots_69 hl (k := 1) rfl (by rw [ev3]; rfl) (by decide) rfl (fun ls hl => ?_)
        refine lv_goto (tgt := 2) hx hb dX3_inSlots_72 (by decide) ?_
        exact hL2 σ v3 hF H locs ls hP hS (lv_sub hl [1, 0] rfl)
      · replace hF := hF.2 h2
        refine lv_aload_n hx hb dX3_inSlots_21 rfl (lv_at hl 0 rfl) ?_
        refine va_get (D := D) (ci := 3) (v := .ref (α.1 0)) (C := RX3) (T := TX3) (N := 3) hx hb hts in_X3 hown hK hP 3 (sm_gX3 σ α) rfl 1 (by decide) k_0 (fun _ h9 => h9) rfl dX3_inSlots_22 ?_
        refine va_get (D := D) (ci := 0) (v := .ref (α.1 15)) (C := RX0) (T := TX0) (N := 7) hx hb hts in_X0 hown hK hP 0 (sm_gX0 σ α) rfl 5 (by decide) k_1 (fun _ h9 => h9) rfl dX3_inSlots_25 ?_
        refine lv_iload_n hx hb dX3_inSlots_28 rfl (lv_at hl 1 rfl) ?_
        refine lv_bipush (v := 16) hx hb dX3_inSlots_29 (by decide) ?_
        refine lv_imul hx hb dX3_inSlots_31 ?_
        refine lv_iload_n hx hb dX3_inSlots_32 rfl (lv_at hl 2 rfl) ?_
        refine lv_iadd hx hb dX3_inSlots_33 ?_
        obtain ⟨h4, hF⟩ := hF
        refine va_iald (n := (σ.2.2.1 15)) (f := (σ.2.2.2.1 15)) hx hb hK hP 15 4 (sm_aX15 σ α) (sm_yX15 α) h4 dX3_inSlots_34 ?_
        refine lv_iconst (v := -1) hx hb dX3_inSlots_35 (by decide) ?_
        refine lv_icmp_eq (tgt := 63) hx hb dX3_inSlots_36 (by decide) (fun h5 => ?_) (fun h5 => ?_)
        · replace hF := hF.1 h5
          exact B63 L2 hL2 (mp_X3_inSlots_15 L2 K n15) ih15 σ x1 x2 hF H locs ls hP hS (lv_sub hl [0, 1, 2] rfl)
        · replace hF := hF.2 h5
          refine lv_aload_n hx hb dX3_inSlots_39 rfl (lv_at hl 0 rfl) ?_
          refine lv_iload_n hx hb dX3_inSlots_40 rfl (lv_at hl 1 rfl) ?_
          refine lv_iload_n hx hb dX3_inSlots_41 rfl (lv_at hl 2 rfl) ?_
          refine sm_vi (As := [.int x1, .int x2]) (rest := []) hP hK hD hE hS hA ⟨hx, hb, hml, hown, hts⟩ hl.1 (c_X3_slotFits l D H.size t0 σ α x1 x2 _ hF) (cwV 2 hts wg_X3_inSlots_X3_slotFits_51 rfl rfl rfl (by decide +kernel) ⟨Nat.le_of_ble_eq_true rfl, Nat.le_of_ble_eq_true rfl⟩) (va_recv hK hP (ci := 3) (q0 := 3) rfl (sm_gX3 σ α)) rfl rfl (Nat.le_of_ble_eq_true rfl) dX3_inSlots_42 ⟨Nat.zero_le _, Nat.zero_le _⟩ (fun r7 σ6 H locs hF hP hS => ?_)
          refine lv_if_ne (tgt := 63) hx hb dX3_inSlots_45 (by decide) (fun h8 => ?_) (fun h8 => ?_)
          · replace hF := hF.1 h8
            exact B63 L2 hL2 (mp_X3_inSlots_15 L2 K n15) ih15 σ6 x1 x2 hF H locs ls hP hS (lv_sub hl [0, 1, 2] rfl)
          · replace hF := hF.2 h8
            refine lv_aload_n hx hb dX3_inSlots_48 rfl (lv_at hl 0 rfl) ?_
            refine va_get (D := D) (ci := 3) (v := .ref (α.1 0)) (C := RX3) (T := TX3) (N := 3) hx hb hts in_X3 hown hK hP 3 (sm_gX3 σ6 α) rfl 1 (by decide) k_0 (fun _ h9 => h9) rfl dX3_inSlots_49 ?_
            refine va_get (D := D) (ci := 0) (v := .ref (α.1 15)) (C := RX0) (T := TX0) (N := 7) hx hb hts in_X0 hown hK hP 0 (sm_gX0 σ6 α) rfl 5 (by decide) k_1 (fun _ h9 => h9) rfl dX3_inSlots_52 ?_
            refine lv_iload_n hx hb dX3_inSlots_55 rfl (lv_at hl 1 rfl) ?_
            refine lv_bipush (v := 16) hx hb dX3_inSlots_56 (by decide) ?_
            refine lv_imul hx hb dX3_inSlots_58 ?_
            refine lv_iload_n hx hb dX3_inSlots_59 rfl (lv_at hl 2 rfl) ?_
            refine lv_iadd hx hb dX3_inSlots_60 ?_
            obtain ⟨h9, hF⟩ := hF
            refine va_iald (n := (σ6.2.2.1 15)) (f := (σ6.2.2.2.1 15)) hx hb hK hP 15 4 (sm_aX15 σ6 α) (sm_yX15 α) h9 dX3_inSlots_61 ?_
            exact W.iret (v := ((σ6.2.2.2.1 15) ((x1 * 16) + x2).toNatClampNeg)) hx hb hr (fun t ht hW => ⟨⟨((σ6.2.2.2.1 15) ((x1 * 16) + x2).toNatClampNeg), σ6, rfl, hF, (by unfold sm_B; rw [ht]; exact hP)⟩, hS.F ht⟩) hS.2.2 dX3_inSlots_62
  have B2 : ∀ (n : Nat) (σ : sm_S) (x1 : Int32), mp_X3_inSlots_2 K n σ x1 → sm_J p l e (headSpec wp_X3_inSlots { frames := 2, cells := 0, slots := 0, locals := 48 }).room s m ([.ref (α.1 3)] : List Value).toArray below meth c (MQ below (va_Qi K (sm_B sm_wX D α) A) ([.ref (α.1 3)] : List Value).toArray s 0 0 A) D A 3 (sm_wX σ α) 2 [(0, .ref (α.1 3)), (1, .int x1)] [] := by
    intro n2
    induction n2 with
    | zero =>
      intro σ x1 hF
      exact hF.elim
    | succ n2 ih2 =>
      intro σ x1 hF H locs ls hP hS hl
      unfold mp_X3_inSlots_2 at hF
      refine lv_iload_n hx hb dX3_inSlots_2 rfl (lv_at hl 1 rfl) ?_
      refine lv_aload_n hx hb dX3_inSlots_3 rfl (lv_at hl 0 rfl) ?_
      refine va_get (D := D) (ci := 3) (v := .ref (α.1 0)) (C := RX3) (T := TX3) (N := 3) hx hb hts in_X3 hown hK hP 3 (sm_gX3 σ α) rfl 1 (by decide) k_0 (fun _ h9 => h9) rfl dX3_inSlots_4 ?_
      refine va_get (D := D) (ci := 0) (v := .int (σ.1 0)) (C := RX0) (T := TX0) (N := 7) hx hb hts in_X0 hown hK hP 0 (sm_gX0 σ α) rfl 0 (by decide) k_2 (fun _ h9 => h9) rfl dX3_inSlots_7 ?_
      refine lv_icmp_ge (tgt := 75) hx hb dX3_inSlots_10 (by decide) (fun h10 => ?_) (fun h10 => ?_)
      · replace hF := hF.1 h10
        refine lv_iconst (v := -1) hx hb dX3_inSlots_75 (by decide) ?_
        exact W.iret (v := (-1)) hx hb hr (fun t ht hW => ⟨⟨(-1), σ, rfl, hF, (by unfold sm_B; rw [ht]; exact hP)⟩, hS.F ht⟩) hS.2.2 dX3_inSlots_76
      · replace hF := hF.2 h10
        refine lv_iconst (v := 0) hx hb dX3_inSlots_13 (by decide) ?_
        refine lv_istore_n (lv' := [(2, .int 0), (0, .ref (α.1 3)), (1, .int x1)]) hx hb dX3_inSlots_14 rfl hl (by decide) rfl (fun ls hl => ?_)
        obtain ⟨n15, hF⟩ := hF
        exact B15 (mp_X3_inSlots_2 K n2) ih2 n15 σ x1 0 hF H locs ls hP hS (lv_sub hl [1, 2, 0] rfl)
  unfold mp_X3_inSlots at hF
  revert hP hS
  generalize hLo : ([] : List Loc) = locs
  suffices h9 : ∀ (H : Heap) (locs : List Loc), va_P D vwCl (sm_wX σ α) H → va_S A s.heap H locs → W p l e (headSpec wp_X3_inSlots { frames := 2, cells := 0, slots := 0, locals := 48 }).room s m ([.ref (α.1 3)] : List Value).toArray below meth c H locs 0 0 (MQ below (va_Qi K (sm_B sm_wX D α) A) ([.ref (α.1 3)] : List Value).toArray s 0 0 A) (F0 m 0 ls []) from fun hP hS => h9 s.heap locs hP hS
  intro H locs hP hS
  refine lv_iconst (v := 0) hx hb dX3_inSlots_0 (by decide) ?_
  refine lv_istore_n (lv' := [(1, .int 0), (0, .ref (α.1 3))]) hx hb dX3_inSlots_1 rfl hl (by decide) rfl (fun ls hl => ?_)
  obtain ⟨n2, hF⟩ := hF
  exact B2 n2 σ 0 hF H locs ls hP hS (lv_sub hl [1, 0] rfl)
theorem dX3_firstWrong_0 : decode cX3_firstWrong 0 = .ok (.aload_n 0, 1) := by decide +kernel
theorem dX3_firstWrong_1 : decode cX3_firstWrong 1 = .ok (.invokevirtual 27, 3) := by decide +kernel
theorem dX3_firstWrong_4 : decode cX3_firstWrong 4 = .ok (.istore_n 1, 1) := by decide +kernel
theorem dX3_firstWrong_5 : decode cX3_firstWrong 5 = .ok (.iconst 0, 1) := by decide +kernel
theorem dX3_firstWrong_6 : decode cX3_firstWrong 6 = .ok (.istore_n 2, 1) := by decide +kernel
theorem dX3_firstWrong_7 : decode cX3_firstWrong 7 = .ok (.iload_n 2, 1) := by decide +kernel
theorem dX3_firstWrong_8 : decode cX3_firstWrong 8 = .ok (.aload_n 0, 1) := by decide +kernel
theorem dX3_firstWrong_9 : decode cX3_firstWrong 9 = .ok (.getfield 26, 3) := by decide +kernel
theorem dX3_firstWrong_12 : decode cX3_firstWrong 12 = .ok (.getfield 31, 3) := by decide +kernel
theorem dX3_firstWrong_15 : decode cX3_firstWrong 15 = .ok (.if_icmp .ge 31, 3) := by decide +kernel
theorem dX3_firstWrong_18 : decode cX3_firstWrong 18 = .ok (.iload_n 1, 1) := by decide +kernel
theorem dX3_firstWrong_19 : decode cX3_firstWrong 19 = .ok (.iconst (-1), 1) := by decide +kernel
theorem dX3_firstWrong_20 : decode cX3_firstWrong 20 = .ok (.if_icmp .ne 26, 3) := by decide +kernel
theorem dX3_firstWrong_23 : decode cX3_firstWrong 23 = .ok (.aload_n 0, 1) := by decide +kernel
theorem dX3_firstWrong_24 : decode cX3_firstWrong 24 = .ok (.iload_n 2, 1) := by decide +kernel
theorem dX3_firstWrong_25 : decode cX3_firstWrong 25 = .ok (.invokevirtual 37, 3) := by decide +kernel
theorem dX3_firstWrong_28 : decode cX3_firstWrong 28 = .ok (.istore_n 1, 1) := by decide +kernel
theorem dX3_firstWrong_29 : decode cX3_firstWrong 29 = .ok (.iload_n 1, 1) := by decide +kernel
theorem dX3_firstWrong_30 : decode cX3_firstWrong 30 = .ok (.iconst (-1), 1) := by decide +kernel
theorem dX3_firstWrong_31 : decode cX3_firstWrong 31 = .ok (.if_icmp .ne 9, 3) := by decide +kernel
theorem dX3_firstWrong_34 : decode cX3_firstWrong 34 = .ok (.aload_n 0, 1) := by decide +kernel
theorem dX3_firstWrong_35 : decode cX3_firstWrong 35 = .ok (.iload_n 2, 1) := by decide +kernel
theorem dX3_firstWrong_36 : decode cX3_firstWrong 36 = .ok (.invokevirtual 41, 3) := by decide +kernel
theorem dX3_firstWrong_39 : decode cX3_firstWrong 39 = .ok (.istore_n 1, 1) := by decide +kernel
theorem dX3_firstWrong_40 : decode cX3_firstWrong 40 = .ok (.iinc 2 1, 3) := by decide +kernel
theorem dX3_firstWrong_43 : decode cX3_firstWrong 43 = .ok (.goto (-36), 3) := by decide +kernel
theorem dX3_firstWrong_46 : decode cX3_firstWrong 46 = .ok (.iload_n 1, 1) := by decide +kernel
theorem dX3_firstWrong_47 : decode cX3_firstWrong 47 = .ok (.ireturn, 1) := by decide +kernel
def wp_X3_firstWrong : List Cond := .code yX3_firstWrong cX3_firstWrong 3 (some .int) :: ((((([.fieldLink RX3 26 "SteadyMachine$Linker" "methods" "LSteadyMachine$Methods;", .fieldLink RX3 31 "SteadyMachine$Methods" "many" "I"] ++ (wsV RX3 37 RX3 yX3_inCode wp_X3_inCode)) ++ (wsV RX3 41 RX3 yX3_inHandlers wp_X3_inHandlers)) ++ (wsV RX3 27 RX3 yX3_inSlots wp_X3_inSlots)) ++ wsX30) ++ wsX40)
theorem wq_X3_firstWrong : wp_X3_firstWrong.all goodWord = true := wa_c rfl (wa_a (wa_a (wa_a (wa_a (wa_a (by decide +kernel) (wa_V wq_X3_inCode)) (wa_V wq_X3_inHandlers)) (wa_V wq_X3_inSlots)) uq_X3) uq_X4)
theorem wt_X3_firstWrong : GoodIn lw_tbl wp_X3_firstWrong := wm_c (List.mem_of_getElem? (i := 706) (by decide +kernel)) rfl (wm_a (wm_a (wm_a (wm_a (wm_a (goodIn_r _ [361, 220] (by decide +kernel) (by decide +kernel)) (wm_a (goodIn_r _ [719, 721, 13, 141] (by decide +kernel) (by decide +kernel)) wt_X3_inCode)) (wm_a (goodIn_r _ [737, 739, 14, 141] (by decide +kernel) (by decide +kernel)) wt_X3_inHandlers)) (wm_a (goodIn_r _ [707, 709, 11, 141] (by decide +kernel) (by decide +kernel)) wt_X3_inSlots)) ut_X3) ut_X4)
theorem wg_X3_firstWrong_X3_inCode_37 : GoodIn wp_X3_firstWrong (wsV RX3 37 RX3 yX3_inCode wp_X3_inCode) := goodIn_sub (fun w h => List.mem_cons_of_mem _ (List.mem_append_left _ (List.mem_append_left _ (List.mem_append_left _ (List.mem_append_left _ (List.mem_append_right _ h)))))) (wa_V wq_X3_inCode)
theorem wg_X3_firstWrong_X3_inHandlers_41 : GoodIn wp_X3_firstWrong (wsV RX3 41 RX3 yX3_inHandlers wp_X3_inHandlers) := goodIn_sub (fun w h => List.mem_cons_of_mem _ (List.mem_append_left _ (List.mem_append_left _ (List.mem_append_left _ (List.mem_append_right _ h))))) (wa_V wq_X3_inHandlers)
theorem wg_X3_firstWrong_X3_inSlots_27 : GoodIn wp_X3_firstWrong (wsV RX3 27 RX3 yX3_inSlots wp_X3_inSlots) := goodIn_sub (fun w h => List.mem_cons_of_mem _ (List.mem_append_left _ (List.mem_append_left _ (List.mem_append_right _ h)))) (wa_V wq_X3_inSlots)
theorem wi_X3_firstWrong_X3 : ∀ w ∈ wsX30, w ∈ wp_X3_firstWrong := fun w h => List.mem_cons_of_mem _ (List.mem_append_left _ (List.mem_append_right _ h))
theorem wi_X3_firstWrong_X4 : ∀ w ∈ wsX40, w ∈ wp_X3_firstWrong := fun w h => List.mem_cons_of_mem _ (List.mem_append_right _ h)
set_option maxHeartbeats 4000000 in
set_option maxRecDepth 100000 in
theorem c_X3_firstWrong (l : Launch) (D : va_G) (sz t0 : Nat) (σ : sm_S) (α : sm_A) (K : Int32 → sm_S → Prop) (hF : mp_X3_firstWrong σ K) : Met l yX3_firstWrong wp_X3_firstWrong { frames := 3, cells := 0, slots := 0, locals := 70 } (sm_P sm_wX sm_tX 37 D sz t0 σ α [.ref (α.1 3)]) (va_Qi K (sm_B sm_wX D α) (sm_a α 37 sz)) 0 0 (sm_a α 37 sz) := by
  refine Met.ofW (cc := cX3_firstWrong) (maxL := 3) (ret := (some .int)) (by decide) rfl ?_
  intro p e s m args below meth c s₁ B hml hv
  obtain ⟨rfl, hsz, hP, hK, hD0, hE⟩ := hv
  have hx := B.exec
  have hb := B.bytes
  have hr := B.returns
  have hts := atoms_spec (ws := wp_X3_firstWrong) B.pre
  have hown : s.vm.findClass RX3 = some m.cls := findClass_of_methodNamed B.named
  have hlocks := B.notSynchronized
  subst hsz
  have hD : sm_D (sm_a α 37 s.heap.size) α 37 := hD0.own
  have hA : ∀ q : Nat, s.heap.size ≤ q → sm_a α 37 s.heap.size q := fun q h => Or.inr h
  generalize hAe : sm_a α 37 s.heap.size = A at hD hA hE ⊢
  have hS : va_S A s.heap s.heap [] := va_S.rf
  have in_X3 : ∀ w ∈ wsX30, w ∈ wp_X3_firstWrong := wi_X3_firstWrong_X3
  have in_X4 : ∀ w ∈ wsX40, w ∈ wp_X3_firstWrong := wi_X3_firstWrong_X4
  have k_0 := hts (.fieldLink RX3 26 "SteadyMachine$Linker" "methods" "LSteadyMachine$Methods;") (by decide +kernel)
  have k_1 := hts (.fieldLink RX3 31 "SteadyMachine$Methods" "many" "I") (by decide +kernel)
  have hl := lv_entry ([.ref (α.1 3)]) (n := 3) (Nat.le_of_ble_eq_true rfl)
  rw [lg_entry_eq]
  generalize (lg_sl ([.ref (α.1 3)]) ++ List.replicate (3 - (lg_sl ([.ref (α.1 3)])).length) Slot.unset).toArray = ls at hl ⊢
  have hl : lv_has ls 3 [(0, .ref (α.1 3))] := hl
  have B46 : ∀ (σ : sm_S) (x1 : Int32), mp_X3_firstWrong_46 K σ x1 → sm_J p l e (headSpec wp_X3_firstWrong { frames := 3, cells := 0, slots := 0, locals := 70 }).room s m ([.ref (α.1 3)] : List Value).toArray below meth c (MQ below (va_Qi K (sm_B sm_wX D α) A) ([.ref (α.1 3)] : List Value).toArray s 0 0 A) D A 3 (sm_wX σ α) 46 [(1, .int x1)] [] := by
    intro σ x1 hF H locs ls hP hS hl
    unfold mp_X3_firstWrong_46 at hF
    refine lv_iload_n hx hb dX3_firstWrong_46 rfl (lv_at hl 0 rfl) ?_
    exact W.iret (v := x1) hx hb hr (fun t ht hW => ⟨⟨x1, σ, rfl, hF, (by unfold sm_B; rw [ht]; exact hP)⟩, hS.F ht⟩) hS.2.2 dX3_firstWrong_47
  have B40 : ∀ (L7 : sm_S → Int32 → Int32 → Prop) (hL7 : ∀ (σ : sm_S) (x1 : Int32) (x2 : Int32), L7 σ x1 x2 → sm_J p l e (headSpec wp_X3_firstWrong { frames := 3, cells := 0, slots := 0, locals := 70 }).room s m ([.ref (α.1 3)] : List Value).toArray below meth c (MQ below (va_Qi K (sm_B sm_wX D α) A) ([.ref (α.1 3)] : List Value).toArray s 0 0 A) D A 3 (sm_wX σ α) 7 [(0, .ref (α.1 3)), (1, .int x1), (2, .int x2)] []) (σ : sm_S) (x1 : Int32) (x2 : Int32), mp_X3_firstWrong_40 L7 K σ x1 x2 → sm_J p l e (headSpec wp_X3_firstWrong { frames := 3, cells := 0, slots := 0, locals := 70 }).room s m ([.ref (α.1 3)] : List Value).toArray below meth c (MQ below (va_Qi K (sm_B sm_wX D α) A) ([.ref (α.1 3)] : List Value).toArray s 0 0 A) D A 3 (sm_wX σ α) 40 [(0, .ref (α.1 3)), (1, .int x1), (2, .int x2)] [] := by
    intro L7 hL7 σ x1 x2 hF H locs ls hP hS hl
    unfold mp_X3_firstWrong_40 at hF
    obtain ⟨v1, ev1⟩ : ∃ y : Int32, y = x2 + 1 := ⟨_, rfl⟩
    replace hF := hF v1 ev1
    refine lv_iinc (v := v1) (lv' := [(2, .int v1), (0, .ref (α.1 3)), (1, .int x1)]) hx hb dX3_firstWrong_40 hl (k := 2) rfl (by rw [ev1]; rfl) (by decide) rfl (fun ls hl => ?_)
    refine lv_goto (tgt := 7) hx hb dX3_firstWrong_43 (by decide) ?_
    exact hL7 σ x1 v1 hF H locs ls hP hS (lv_sub hl [1, 2, 0] rfl)
  have B7 : ∀ (n : Nat) (σ : sm_S) (x1 : Int32) (x2 : Int32), mp_X3_firstWrong_7 K n σ x1 x2 → sm_J p l e (headSpec wp_X3_firstWrong { frames := 3, cells := 0, slots := 0, locals := 70 }).room s m ([.ref (α.1 3)] : List Value).toArray below meth c (MQ below (va_Qi K (sm_B sm_wX D α) A) ([.ref (α.1 3)] : List Value).toArray s 0 0 A) D A 3 (sm_wX σ α) 7 [(0, .ref (α.1 3)), (1, .int x1), (2, .int x2)] [] := by
    intro n7
    induction n7 with
    | zero =>
      intro σ x1 x2 hF
      exact hF.elim
    | succ n7 ih7 =>
      intro σ x1 x2 hF H locs ls hP hS hl
      unfold mp_X3_firstWrong_7 at hF
      refine lv_iload_n hx hb dX3_firstWrong_7 rfl (lv_at hl 2 rfl) ?_
      refine lv_aload_n hx hb dX3_firstWrong_8 rfl (lv_at hl 0 rfl) ?_
      refine va_get (D := D) (ci := 3) (v := .ref (α.1 4)) (C := RX3) (T := TX3) (N := 3) hx hb hts in_X3 hown hK hP 3 (sm_gX3 σ α) rfl 2 (by decide) k_0 (fun _ h9 => h9) rfl dX3_firstWrong_9 ?_
      refine va_get (D := D) (ci := 4) (v := .int (σ.1 16)) (C := RX4) (T := TX4) (N := 12) hx hb hts in_X4 hown hK hP 4 (sm_gX4 σ α) rfl 0 (by decide) k_1 (fun _ h9 => h9) rfl dX3_firstWrong_12 ?_
      refine lv_icmp_ge (tgt := 46) hx hb dX3_firstWrong_15 (by decide) (fun h2 => ?_) (fun h2 => ?_)
      · replace hF := hF.1 h2
        exact B46 σ x1 hF H locs ls hP hS (lv_sub hl [1] rfl)
      · replace hF := hF.2 h2
        refine lv_iload_n hx hb dX3_firstWrong_18 rfl (lv_at hl 1 rfl) ?_
        refine lv_iconst (v := -1) hx hb dX3_firstWrong_19 (by decide) ?_
        refine lv_icmp_ne (tgt := 46) hx hb dX3_firstWrong_20 (by decide) (fun h3 => ?_) (fun h3 => ?_)
        · replace hF := hF.1 h3
          exact B46 σ x1 hF H locs ls hP hS (lv_sub hl [1] rfl)
        · replace hF := hF.2 h3
          refine lv_aload_n hx hb dX3_firstWrong_23 rfl (lv_at hl 0 rfl) ?_
          refine lv_iload_n hx hb dX3_firstWrong_24 rfl (lv_at hl 2 rfl) ?_
          refine sm_vi (As := [.int x2]) (rest := []) hP hK hD hE hS hA ⟨hx, hb, hml, hown, hts⟩ hl.1 (c_X3_inCode l D H.size t0 σ α x2 _ hF) (cwV 1 hts wg_X3_firstWrong_X3_inCode_37 rfl rfl rfl (by decide +kernel) ⟨Nat.le_of_ble_eq_true rfl, Nat.le_of_ble_eq_true rfl⟩) (va_recv hK hP (ci := 3) (q0 := 3) rfl (sm_gX3 σ α)) rfl rfl (Nat.le_of_ble_eq_true rfl) dX3_firstWrong_25 ⟨Nat.zero_le _, Nat.zero_le _⟩ (fun r5 σ4 H locs hF hP hS => ?_)
          refine lv_istore_n (lv' := [(1, .int r5), (0, .ref (α.1 3)), (2, .int x2)]) hx hb dX3_firstWrong_28 rfl hl (by decide) rfl (fun ls hl => ?_)
          refine lv_iload_n hx hb dX3_firstWrong_29 rfl (lv_at hl 0 rfl) ?_
          refine lv_iconst (v := -1) hx hb dX3_firstWrong_30 (by decide) ?_
          refine lv_icmp_ne (tgt := 40) hx hb dX3_firstWrong_31 (by decide) (fun h6 => ?_) (fun h6 => ?_)
          · replace hF := hF.1 h6
            exact B40 (mp_X3_firstWrong_7 K n7) ih7 σ4 r5 x2 hF H locs ls hP hS (lv_sub hl [1, 0, 2] rfl)
          · replace hF := hF.2 h6
            refine lv_aload_n hx hb dX3_firstWrong_34 rfl (lv_at hl 1 rfl) ?_
            refine lv_iload_n hx hb dX3_firstWrong_35 rfl (lv_at hl 2 rfl) ?_
            refine sm_vi (As := [.int x2]) (rest := []) hP hK hD hE hS hA ⟨hx, hb, hml, hown, hts⟩ hl.1 (c_X3_inHandlers l D H.size t0 σ4 α x2 _ hF) (cwV 1 hts wg_X3_firstWrong_X3_inHandlers_41 rfl rfl rfl (by decide +kernel) ⟨Nat.le_of_ble_eq_true rfl, Nat.le_of_ble_eq_true rfl⟩) (va_recv hK hP (ci := 3) (q0 := 3) rfl (sm_gX3 σ4 α)) rfl rfl (Nat.le_of_ble_eq_true rfl) dX3_firstWrong_36 ⟨Nat.zero_le _, Nat.zero_le _⟩ (fun r8 σ7 H locs hF hP hS => ?_)
            refine lv_istore_n (lv' := [(1, .int r8), (0, .ref (α.1 3)), (2, .int x2)]) hx hb dX3_firstWrong_39 rfl hl (by decide) rfl (fun ls hl => ?_)
            exact B40 (mp_X3_firstWrong_7 K n7) ih7 σ7 r8 x2 hF H locs ls hP hS (lv_sub hl [1, 0, 2] rfl)
  unfold mp_X3_firstWrong at hF
  revert hP hS
  generalize hLo : ([] : List Loc) = locs
  suffices h9 : ∀ (H : Heap) (locs : List Loc), va_P D vwCl (sm_wX σ α) H → va_S A s.heap H locs → W p l e (headSpec wp_X3_firstWrong { frames := 3, cells := 0, slots := 0, locals := 70 }).room s m ([.ref (α.1 3)] : List Value).toArray below meth c H locs 0 0 (MQ below (va_Qi K (sm_B sm_wX D α) A) ([.ref (α.1 3)] : List Value).toArray s 0 0 A) (F0 m 0 ls []) from fun hP hS => h9 s.heap locs hP hS
  intro H locs hP hS
  refine lv_aload_n hx hb dX3_firstWrong_0 rfl (lv_at hl 0 rfl) ?_
  refine sm_vi (As := []) (rest := []) hP hK hD hE hS hA ⟨hx, hb, hml, hown, hts⟩ hl.1 (c_X3_inSlots l D H.size t0 σ α _ hF) (cwV 0 hts wg_X3_firstWrong_X3_inSlots_27 rfl rfl rfl (by decide +kernel) ⟨Nat.le_of_ble_eq_true rfl, Nat.le_of_ble_eq_true rfl⟩) (va_recv hK hP (ci := 3) (q0 := 3) rfl (sm_gX3 σ α)) rfl rfl (Nat.le_of_ble_eq_true rfl) dX3_firstWrong_1 ⟨Nat.zero_le _, Nat.zero_le _⟩ (fun r10 σ9 H locs hF hP hS => ?_)
  refine lv_istore_n (lv' := [(1, .int r10), (0, .ref (α.1 3))]) hx hb dX3_firstWrong_4 rfl hl (by decide) rfl (fun ls hl => ?_)
  refine lv_iconst (v := 0) hx hb dX3_firstWrong_5 (by decide) ?_
  refine lv_istore_n (lv' := [(2, .int 0), (1, .int r10), (0, .ref (α.1 3))]) hx hb dX3_firstWrong_6 rfl hl (by decide) rfl (fun ls hl => ?_)
  obtain ⟨n7, hF⟩ := hF
  exact B7 n7 σ9 r10 0 hF H locs ls hP hS (lv_sub hl [2, 1, 0] rfl)
theorem dX5_add_0 : decode cX5_add 0 = .ok (.aload_n 0, 1) := by decide +kernel
theorem dX5_add_1 : decode cX5_add 1 = .ok (.getfield 18, 3) := by decide +kernel
theorem dX5_add_4 : decode cX5_add 4 = .ok (.sipush 1000, 3) := by decide +kernel
theorem dX5_add_7 : decode cX5_add 7 = .ok (.if_icmp .lt 6, 3) := by decide +kernel
theorem dX5_add_10 : decode cX5_add 10 = .ok (.bipush (-2), 2) := by decide +kernel
theorem dX5_add_12 : decode cX5_add 12 = .ok (.ireturn, 1) := by decide +kernel
theorem dX5_add_13 : decode cX5_add 13 = .ok (.aload_n 0, 1) := by decide +kernel
theorem dX5_add_14 : decode cX5_add 14 = .ok (.getfield 9, 3) := by decide +kernel
theorem dX5_add_17 : decode cX5_add 17 = .ok (.aload_n 0, 1) := by decide +kernel
theorem dX5_add_18 : decode cX5_add 18 = .ok (.getfield 18, 3) := by decide +kernel
theorem dX5_add_21 : decode cX5_add 21 = .ok (.iload_n 1, 1) := by decide +kernel
theorem dX5_add_22 : decode cX5_add 22 = .ok (.iastore, 1) := by decide +kernel
theorem dX5_add_23 : decode cX5_add 23 = .ok (.aload_n 0, 1) := by decide +kernel
theorem dX5_add_24 : decode cX5_add 24 = .ok (.dup, 1) := by decide +kernel
theorem dX5_add_25 : decode cX5_add 25 = .ok (.getfield 18, 3) := by decide +kernel
theorem dX5_add_28 : decode cX5_add 28 = .ok (.iconst 1, 1) := by decide +kernel
theorem dX5_add_29 : decode cX5_add 29 = .ok (.iadd, 1) := by decide +kernel
theorem dX5_add_30 : decode cX5_add 30 = .ok (.putfield 18, 3) := by decide +kernel
theorem dX5_add_33 : decode cX5_add 33 = .ok (.aload_n 0, 1) := by decide +kernel
theorem dX5_add_34 : decode cX5_add 34 = .ok (.getfield 18, 3) := by decide +kernel
theorem dX5_add_37 : decode cX5_add 37 = .ok (.ireturn, 1) := by decide +kernel
def wp_X5_add : List Cond := .code yX5_add cX5_add 2 (some .int) :: ([.fieldLink RX5 18 "SteadyMachine$Ports" "inputs" "I", .fieldLink RX5 9 "SteadyMachine$Ports" "ins" "[I"] ++ wsX50)
theorem wq_X5_add : wp_X5_add.all goodWord = true := wa_c rfl (wa_a (by decide +kernel) uq_X5)
theorem wt_X5_add : GoodIn lw_tbl wp_X5_add := wm_c (List.mem_of_getElem? (i := 853) (by decide +kernel)) rfl (wm_a (goodIn_r _ [422, 421] (by decide +kernel) (by decide +kernel)) ut_X5)
theorem wi_X5_add_X5 : ∀ w ∈ wsX50, w ∈ wp_X5_add := fun w h => List.mem_cons_of_mem _ (List.mem_append_right _ h)
set_option maxHeartbeats 4000000 in
set_option maxRecDepth 100000 in
theorem c_X5_add (l : Launch) (D : va_G) (sz t0 : Nat) (σ : sm_S) (α : sm_A) (p1 : Int32) (K : Int32 → sm_S → Prop) (hF : mp_X5_add σ p1 K) : Met l yX5_add wp_X5_add { frames := 0, cells := 0, slots := 0, locals := 0 } (sm_P sm_wX sm_tX 37 D sz t0 σ α [.ref (α.1 5), .int p1]) (va_Qi K (sm_B sm_wX D α) (sm_a α 37 sz)) 0 0 (sm_a α 37 sz) := by
  refine Met.ofW (cc := cX5_add) (maxL := 2) (ret := (some .int)) (by decide) rfl ?_
  intro p e s m args below meth c s₁ B hml hv
  obtain ⟨rfl, hsz, hP, hK, hD0, hE⟩ := hv
  have hx := B.exec
  have hb := B.bytes
  have hr := B.returns
  have hts := atoms_spec (ws := wp_X5_add) B.pre
  have hown : s.vm.findClass RX5 = some m.cls := findClass_of_methodNamed B.named
  have hlocks := B.notSynchronized
  subst hsz
  have hD : sm_D (sm_a α 37 s.heap.size) α 37 := hD0.own
  have hA : ∀ q : Nat, s.heap.size ≤ q → sm_a α 37 s.heap.size q := fun q h => Or.inr h
  generalize hAe : sm_a α 37 s.heap.size = A at hD hA hE ⊢
  have hS : va_S A s.heap s.heap [] := va_S.rf
  have in_X5 : ∀ w ∈ wsX50, w ∈ wp_X5_add := wi_X5_add_X5
  have k_0 := hts (.fieldLink RX5 18 "SteadyMachine$Ports" "inputs" "I") (by decide +kernel)
  have k_1 := hts (.fieldLink RX5 9 "SteadyMachine$Ports" "ins" "[I") (by decide +kernel)
  have hl := lv_entry ([.ref (α.1 5), .int p1]) (n := 2) (Nat.le_of_ble_eq_true rfl)
  rw [lg_entry_eq]
  generalize (lg_sl ([.ref (α.1 5), .int p1]) ++ List.replicate (2 - (lg_sl ([.ref (α.1 5), .int p1])).length) Slot.unset).toArray = ls at hl ⊢
  have hl : lv_has ls 2 [(0, .ref (α.1 5)), (1, .int p1)] := hl
  unfold mp_X5_add at hF
  revert hP hS
  generalize hLo : ([] : List Loc) = locs
  suffices h9 : ∀ (H : Heap) (locs : List Loc), va_P D vwCl (sm_wX σ α) H → va_S A s.heap H locs → W p l e (headSpec wp_X5_add { frames := 0, cells := 0, slots := 0, locals := 0 }).room s m ([.ref (α.1 5), .int p1] : List Value).toArray below meth c H locs 0 0 (MQ below (va_Qi K (sm_B sm_wX D α) A) ([.ref (α.1 5), .int p1] : List Value).toArray s 0 0 A) (F0 m 0 ls []) from fun hP hS => h9 s.heap locs hP hS
  intro H locs hP hS
  refine lv_aload_n hx hb dX5_add_0 rfl (lv_at hl 0 rfl) ?_
  refine va_get (D := D) (ci := 5) (v := .int (σ.1 18)) (C := RX5) (T := TX5) (N := 5) hx hb hts in_X5 hown hK hP 5 (sm_gX5 σ α) rfl 1 (by decide) k_0 (fun _ h9 => h9) rfl dX5_add_1 ?_
  refine lv_sipush (v := 1000) hx hb dX5_add_4 (by decide) ?_
  refine lv_icmp_lt (tgt := 13) hx hb dX5_add_7 (by decide) (fun h1 => ?_) (fun h1 => ?_)
  · replace hF := hF.1 h1
    refine lv_aload_n hx hb dX5_add_13 rfl (lv_at hl 0 rfl) ?_
    refine va_get (D := D) (ci := 5) (v := .ref (α.1 30)) (C := RX5) (T := TX5) (N := 5) hx hb hts in_X5 hown hK hP 5 (sm_gX5 σ α) rfl 0 (by decide) k_1 (fun _ h9 => h9) rfl dX5_add_14 ?_
    refine lv_aload_n hx hb dX5_add_17 rfl (lv_at hl 0 rfl) ?_
    refine va_get (D := D) (ci := 5) (v := .int (σ.1 18)) (C := RX5) (T := TX5) (N := 5) hx hb hts in_X5 hown hK hP 5 (sm_gX5 σ α) rfl 1 (by decide) k_0 (fun _ h9 => h9) rfl dX5_add_18 ?_
    refine lv_iload_n hx hb dX5_add_21 rfl (lv_at hl 1 rfl) ?_
    obtain ⟨h2, hF⟩ := hF
    refine va_iast (n := (σ.2.2.1 30)) (f := (σ.2.2.2.1 30)) (x := p1) hx hb hK hP (hD.to (sm_wX_m _ _)) hS 30 19 (sm_aX30 σ α) (sm_yX30 α) h2 dX5_add_22 (fun H locs hP _ hS => ?_)
    rw [sm_rX30] at hP
    obtain ⟨σ3, eσ3⟩ : ∃ x : sm_S, x = sm_r σ 30 (upd (σ.2.2.2.1 30) (σ.1 18).toNatClampNeg p1) := ⟨_, rfl⟩
    replace hF := hF σ3 eσ3
    rw [← eσ3] at hP
    refine lv_aload_n hx hb dX5_add_23 rfl (lv_at hl 0 rfl) ?_
    refine lv_dup hx hb dX5_add_24 rfl ?_
    refine va_get (D := D) (ci := 5) (v := .int (σ3.1 18)) (C := RX5) (T := TX5) (N := 5) hx hb hts in_X5 hown hK hP 5 (sm_gX5 σ3 α) rfl 1 (by decide) k_0 (fun _ h9 => h9) rfl dX5_add_25 ?_
    refine lv_iconst (v := 1) hx hb dX5_add_28 (by decide) ?_
    refine lv_iadd hx hb dX5_add_29 ?_
    refine va_put (D := D) (ci := 5) (v := .int ((σ3.1 18) + 1)) (ty := .int) (C := RX5) (T := TX5) (N := 5) hx hb hts in_X5 tyX5 tyX5_ok nmX5 hown hK hP (hD.to (sm_wX_m _ _)) hS 5 (sm_gX5 σ3 α) rfl 1 (by decide) k_0 (fun _ h9 => h9) rfl (by decide +kernel) rfl rfl (Nat.le_of_ble_eq_true rfl) dX5_add_30 (fun H locs hP _ hS => ?_)
    rw [sm_iX18] at hP
    obtain ⟨σ4, eσ4⟩ : ∃ x : sm_S, x = sm_i σ3 18 ((σ3.1 18) + 1) := ⟨_, rfl⟩
    replace hF := hF σ4 eσ4
    rw [← eσ4] at hP
    refine lv_aload_n hx hb dX5_add_33 rfl (lv_at hl 0 rfl) ?_
    refine va_get (D := D) (ci := 5) (v := .int (σ4.1 18)) (C := RX5) (T := TX5) (N := 5) hx hb hts in_X5 hown hK hP 5 (sm_gX5 σ4 α) rfl 1 (by decide) k_0 (fun _ h9 => h9) rfl dX5_add_34 ?_
    exact W.iret (v := (σ4.1 18)) hx hb hr (fun t ht hW => ⟨⟨(σ4.1 18), σ4, rfl, hF, (by unfold sm_B; rw [ht]; exact hP)⟩, hS.F ht⟩) hS.2.2 dX5_add_37
  · replace hF := hF.2 h1
    refine lv_bipush (v := -2) hx hb dX5_add_10 (by decide) ?_
    exact W.iret (v := (-2)) hx hb hr (fun t ht hW => ⟨⟨(-2), σ, rfl, hF, (by unfold sm_B; rw [ht]; exact hP)⟩, hS.F ht⟩) hS.2.2 dX5_add_12
theorem dX5_rewind_0 : decode cX5_rewind 0 = .ok (.aload_n 0, 1) := by decide +kernel
theorem dX5_rewind_1 : decode cX5_rewind 1 = .ok (.iconst 0, 1) := by decide +kernel
theorem dX5_rewind_2 : decode cX5_rewind 2 = .ok (.putfield 22, 3) := by decide +kernel
theorem dX5_rewind_5 : decode cX5_rewind 5 = .ok (.aload_n 0, 1) := by decide +kernel
theorem dX5_rewind_6 : decode cX5_rewind 6 = .ok (.lconst 0, 1) := by decide +kernel
theorem dX5_rewind_7 : decode cX5_rewind 7 = .ok (.putfield 25, 3) := by decide +kernel
theorem dX5_rewind_10 : decode cX5_rewind 10 = .ok (.return_, 1) := by decide +kernel
def wp_X5_rewind : List Cond := .code yX5_rewind cX5_rewind 1 none :: ([.fieldLink RX5 22 "SteadyMachine$Ports" "taken" "I", .fieldLink RX5 25 "SteadyMachine$Ports" "given" "J"] ++ wsX50)
theorem wq_X5_rewind : wp_X5_rewind.all goodWord = true := wa_c rfl (wa_a (by decide +kernel) uq_X5)
theorem wt_X5_rewind : GoodIn lw_tbl wp_X5_rewind := wm_c (List.mem_of_getElem? (i := 876) (by decide +kernel)) rfl (wm_a (goodIn_r _ [424, 428] (by decide +kernel) (by decide +kernel)) ut_X5)
theorem wi_X5_rewind_X5 : ∀ w ∈ wsX50, w ∈ wp_X5_rewind := fun w h => List.mem_cons_of_mem _ (List.mem_append_right _ h)
set_option maxHeartbeats 4000000 in
set_option maxRecDepth 100000 in
theorem c_X5_rewind (l : Launch) (D : va_G) (sz t0 : Nat) (σ : sm_S) (α : sm_A) (K : sm_S → Prop) (hF : mp_X5_rewind σ K) : Met l yX5_rewind wp_X5_rewind { frames := 0, cells := 0, slots := 0, locals := 0 } (sm_P sm_wX sm_tX 37 D sz t0 σ α [.ref (α.1 5)]) (va_Qv K (sm_B sm_wX D α) (sm_a α 37 sz)) 0 0 (sm_a α 37 sz) := by
  refine Met.ofW (cc := cX5_rewind) (maxL := 1) (ret := none) (by decide) rfl ?_
  intro p e s m args below meth c s₁ B hml hv
  obtain ⟨rfl, hsz, hP, hK, hD0, hE⟩ := hv
  have hx := B.exec
  have hb := B.bytes
  have hr := B.returns
  have hts := atoms_spec (ws := wp_X5_rewind) B.pre
  have hown : s.vm.findClass RX5 = some m.cls := findClass_of_methodNamed B.named
  have hlocks := B.notSynchronized
  subst hsz
  have hD : sm_D (sm_a α 37 s.heap.size) α 37 := hD0.own
  have hA : ∀ q : Nat, s.heap.size ≤ q → sm_a α 37 s.heap.size q := fun q h => Or.inr h
  generalize hAe : sm_a α 37 s.heap.size = A at hD hA hE ⊢
  have hS : va_S A s.heap s.heap [] := va_S.rf
  have in_X5 : ∀ w ∈ wsX50, w ∈ wp_X5_rewind := wi_X5_rewind_X5
  have k_0 := hts (.fieldLink RX5 22 "SteadyMachine$Ports" "taken" "I") (by decide +kernel)
  have k_1 := hts (.fieldLink RX5 25 "SteadyMachine$Ports" "given" "J") (by decide +kernel)
  have hl := lv_entry ([.ref (α.1 5)]) (n := 1) (Nat.le_of_ble_eq_true rfl)
  rw [lg_entry_eq]
  generalize (lg_sl ([.ref (α.1 5)]) ++ List.replicate (1 - (lg_sl ([.ref (α.1 5)])).length) Slot.unset).toArray = ls at hl ⊢
  have hl : lv_has ls 1 [(0, .ref (α.1 5))] := hl
  unfold mp_X5_rewind at hF
  revert hP hS
  generalize hLo : ([] : List Loc) = locs
  suffices h9 : ∀ (H : Heap) (locs : List Loc), va_P D vwCl (sm_wX σ α) H → va_S A s.heap H locs → W p l e (headSpec wp_X5_rewind { frames := 0, cells := 0, slots := 0, locals := 0 }).room s m ([.ref (α.1 5)] : List Value).toArray below meth c H locs 0 0 (MQ below (va_Qv K (sm_B sm_wX D α) A) ([.ref (α.1 5)] : List Value).toArray s 0 0 A) (F0 m 0 ls []) from fun hP hS => h9 s.heap locs hP hS
  intro H locs hP hS
  refine lv_aload_n hx hb dX5_rewind_0 rfl (lv_at hl 0 rfl) ?_
  refine lv_iconst (v := 0) hx hb dX5_rewind_1 (by decide) ?_
  refine va_put (D := D) (ci := 5) (v := .int 0) (ty := .int) (C := RX5) (T := TX5) (N := 5) hx hb hts in_X5 tyX5 tyX5_ok nmX5 hown hK hP (hD.to (sm_wX_m _ _)) hS 5 (sm_gX5 σ α) rfl 2 (by decide) k_0 (fun _ h9 => h9) rfl (by decide +kernel) rfl rfl (Nat.le_of_ble_eq_true rfl) dX5_rewind_2 (fun H locs hP _ hS => ?_)
  rw [sm_iX19] at hP
  obtain ⟨σ1, eσ1⟩ : ∃ x : sm_S, x = sm_i σ 19 0 := ⟨_, rfl⟩
  replace hF := hF σ1 eσ1
  rw [← eσ1] at hP
  refine lv_aload_n hx hb dX5_rewind_5 rfl (lv_at hl 0 rfl) ?_
  refine lv_lconst (v := 0) hx hb dX5_rewind_6 (by decide) ?_
  refine va_put (D := D) (ci := 5) (v := .long 0) (ty := .long) (C := RX5) (T := TX5) (N := 5) hx hb hts in_X5 tyX5 tyX5_ok nmX5 hown hK hP (hD.to (sm_wX_m _ _)) hS 5 (sm_gX5 σ1 α) rfl 4 (by decide) k_1 (fun _ h9 => h9) rfl (by decide +kernel) rfl rfl (Nat.le_of_ble_eq_true rfl) dX5_rewind_7 (fun H locs hP _ hS => ?_)
  rw [sm_jX0] at hP
  obtain ⟨σ2, eσ2⟩ : ∃ x : sm_S, x = sm_j σ1 0 0 := ⟨_, rfl⟩
  replace hF := hF σ2 eσ2
  rw [← eσ2] at hP
  exact W.vret hx hb hr (fun t ht hW => ⟨⟨σ2, rfl, hF, (by unfold sm_B; rw [ht]; exact hP)⟩, hS.F ht⟩) hS.2.2 dX5_rewind_10
theorem dX5_take_0 : decode cX5_take 0 = .ok (.aload_n 0, 1) := by decide +kernel
theorem dX5_take_1 : decode cX5_take 1 = .ok (.getfield 22, 3) := by decide +kernel
theorem dX5_take_4 : decode cX5_take 4 = .ok (.aload_n 0, 1) := by decide +kernel
theorem dX5_take_5 : decode cX5_take 5 = .ok (.getfield 18, 3) := by decide +kernel
theorem dX5_take_8 : decode cX5_take 8 = .ok (.if_icmp .lt 5, 3) := by decide +kernel
theorem dX5_take_11 : decode cX5_take 11 = .ok (.iconst 0, 1) := by decide +kernel
theorem dX5_take_12 : decode cX5_take 12 = .ok (.ireturn, 1) := by decide +kernel
theorem dX5_take_13 : decode cX5_take 13 = .ok (.aload_n 0, 1) := by decide +kernel
theorem dX5_take_14 : decode cX5_take 14 = .ok (.dup, 1) := by decide +kernel
theorem dX5_take_15 : decode cX5_take 15 = .ok (.getfield 22, 3) := by decide +kernel
theorem dX5_take_18 : decode cX5_take 18 = .ok (.iconst 1, 1) := by decide +kernel
theorem dX5_take_19 : decode cX5_take 19 = .ok (.iadd, 1) := by decide +kernel
theorem dX5_take_20 : decode cX5_take 20 = .ok (.putfield 22, 3) := by decide +kernel
theorem dX5_take_23 : decode cX5_take 23 = .ok (.aload_n 0, 1) := by decide +kernel
theorem dX5_take_24 : decode cX5_take 24 = .ok (.getfield 9, 3) := by decide +kernel
theorem dX5_take_27 : decode cX5_take 27 = .ok (.aload_n 0, 1) := by decide +kernel
theorem dX5_take_28 : decode cX5_take 28 = .ok (.getfield 22, 3) := by decide +kernel
theorem dX5_take_31 : decode cX5_take 31 = .ok (.iconst 1, 1) := by decide +kernel
theorem dX5_take_32 : decode cX5_take 32 = .ok (.isub, 1) := by decide +kernel
theorem dX5_take_33 : decode cX5_take 33 = .ok (.iaload, 1) := by decide +kernel
theorem dX5_take_34 : decode cX5_take 34 = .ok (.ireturn, 1) := by decide +kernel
def wp_X5_take : List Cond := .code yX5_take cX5_take 1 (some .int) :: ([.fieldLink RX5 22 "SteadyMachine$Ports" "taken" "I", .fieldLink RX5 18 "SteadyMachine$Ports" "inputs" "I", .fieldLink RX5 9 "SteadyMachine$Ports" "ins" "[I"] ++ wsX50)
theorem wq_X5_take : wp_X5_take.all goodWord = true := wa_c rfl (wa_a (by decide +kernel) uq_X5)
theorem wt_X5_take : GoodIn lw_tbl wp_X5_take := wm_c (List.mem_of_getElem? (i := 1079) (by decide +kernel)) rfl (wm_a (goodIn_r _ [424, 422, 421] (by decide +kernel) (by decide +kernel)) ut_X5)
theorem wi_X5_take_X5 : ∀ w ∈ wsX50, w ∈ wp_X5_take := fun w h => List.mem_cons_of_mem _ (List.mem_append_right _ h)
set_option maxHeartbeats 4000000 in
set_option maxRecDepth 100000 in
theorem c_X5_take (l : Launch) (D : va_G) (sz t0 : Nat) (σ : sm_S) (α : sm_A) (K : Int32 → sm_S → Prop) (hF : mp_X5_take σ K) : Met l yX5_take wp_X5_take { frames := 0, cells := 0, slots := 0, locals := 0 } (sm_P sm_wX sm_tX 37 D sz t0 σ α [.ref (α.1 5)]) (va_Qi K (sm_B sm_wX D α) (sm_a α 37 sz)) 0 0 (sm_a α 37 sz) := by
  refine Met.ofW (cc := cX5_take) (maxL := 1) (ret := (some .int)) (by decide) rfl ?_
  intro p e s m args below meth c s₁ B hml hv
  obtain ⟨rfl, hsz, hP, hK, hD0, hE⟩ := hv
  have hx := B.exec
  have hb := B.bytes
  have hr := B.returns
  have hts := atoms_spec (ws := wp_X5_take) B.pre
  have hown : s.vm.findClass RX5 = some m.cls := findClass_of_methodNamed B.named
  have hlocks := B.notSynchronized
  subst hsz
  have hD : sm_D (sm_a α 37 s.heap.size) α 37 := hD0.own
  have hA : ∀ q : Nat, s.heap.size ≤ q → sm_a α 37 s.heap.size q := fun q h => Or.inr h
  generalize hAe : sm_a α 37 s.heap.size = A at hD hA hE ⊢
  have hS : va_S A s.heap s.heap [] := va_S.rf
  have in_X5 : ∀ w ∈ wsX50, w ∈ wp_X5_take := wi_X5_take_X5
  have k_0 := hts (.fieldLink RX5 22 "SteadyMachine$Ports" "taken" "I") (by decide +kernel)
  have k_1 := hts (.fieldLink RX5 18 "SteadyMachine$Ports" "inputs" "I") (by decide +kernel)
  have k_2 := hts (.fieldLink RX5 9 "SteadyMachine$Ports" "ins" "[I") (by decide +kernel)
  have hl := lv_entry ([.ref (α.1 5)]) (n := 1) (Nat.le_of_ble_eq_true rfl)
  rw [lg_entry_eq]
  generalize (lg_sl ([.ref (α.1 5)]) ++ List.replicate (1 - (lg_sl ([.ref (α.1 5)])).length) Slot.unset).toArray = ls at hl ⊢
  have hl : lv_has ls 1 [(0, .ref (α.1 5))] := hl
  unfold mp_X5_take at hF
  revert hP hS
  generalize hLo : ([] : List Loc) = locs
  suffices h9 : ∀ (H : Heap) (locs : List Loc), va_P D vwCl (sm_wX σ α) H → va_S A s.heap H locs → W p l e (headSpec wp_X5_take { frames := 0, cells := 0, slots := 0, locals := 0 }).room s m ([.ref (α.1 5)] : List Value).toArray below meth c H locs 0 0 (MQ below (va_Qi K (sm_B sm_wX D α) A) ([.ref (α.1 5)] : List Value).toArray s 0 0 A) (F0 m 0 ls []) from fun hP hS => h9 s.heap locs hP hS
  intro H locs hP hS
  refine lv_aload_n hx hb dX5_take_0 rfl (lv_at hl 0 rfl) ?_
  refine va_get (D := D) (ci := 5) (v := .int (σ.1 19)) (C := RX5) (T := TX5) (N := 5) hx hb hts in_X5 hown hK hP 5 (sm_gX5 σ α) rfl 2 (by decide) k_0 (fun _ h9 => h9) rfl dX5_take_1 ?_
  refine lv_aload_n hx hb dX5_take_4 rfl (lv_at hl 0 rfl) ?_
  refine va_get (D := D) (ci := 5) (v := .int (σ.1 18)) (C := RX5) (T := TX5) (N := 5) hx hb hts in_X5 hown hK hP 5 (sm_gX5 σ α) rfl 1 (by decide) k_1 (fun _ h9 => h9) rfl dX5_take_5 ?_
  refine lv_icmp_lt (tgt := 13) hx hb dX5_take_8 (by decide) (fun h1 => ?_) (fun h1 => ?_)
  · replace hF := hF.1 h1
    refine lv_aload_n hx hb dX5_take_13 rfl (lv_at hl 0 rfl) ?_
    refine lv_dup hx hb dX5_take_14 rfl ?_
    refine va_get (D := D) (ci := 5) (v := .int (σ.1 19)) (C := RX5) (T := TX5) (N := 5) hx hb hts in_X5 hown hK hP 5 (sm_gX5 σ α) rfl 2 (by decide) k_0 (fun _ h9 => h9) rfl dX5_take_15 ?_
    refine lv_iconst (v := 1) hx hb dX5_take_18 (by decide) ?_
    refine lv_iadd hx hb dX5_take_19 ?_
    refine va_put (D := D) (ci := 5) (v := .int ((σ.1 19) + 1)) (ty := .int) (C := RX5) (T := TX5) (N := 5) hx hb hts in_X5 tyX5 tyX5_ok nmX5 hown hK hP (hD.to (sm_wX_m _ _)) hS 5 (sm_gX5 σ α) rfl 2 (by decide) k_0 (fun _ h9 => h9) rfl (by decide +kernel) rfl rfl (Nat.le_of_ble_eq_true rfl) dX5_take_20 (fun H locs hP _ hS => ?_)
    rw [sm_iX19] at hP
    obtain ⟨σ2, eσ2⟩ : ∃ x : sm_S, x = sm_i σ 19 ((σ.1 19) + 1) := ⟨_, rfl⟩
    replace hF := hF σ2 eσ2
    rw [← eσ2] at hP
    refine lv_aload_n hx hb dX5_take_23 rfl (lv_at hl 0 rfl) ?_
    refine va_get (D := D) (ci := 5) (v := .ref (α.1 30)) (C := RX5) (T := TX5) (N := 5) hx hb hts in_X5 hown hK hP 5 (sm_gX5 σ2 α) rfl 0 (by decide) k_2 (fun _ h9 => h9) rfl dX5_take_24 ?_
    refine lv_aload_n hx hb dX5_take_27 rfl (lv_at hl 0 rfl) ?_
    refine va_get (D := D) (ci := 5) (v := .int (σ2.1 19)) (C := RX5) (T := TX5) (N := 5) hx hb hts in_X5 hown hK hP 5 (sm_gX5 σ2 α) rfl 2 (by decide) k_0 (fun _ h9 => h9) rfl dX5_take_28 ?_
    refine lv_iconst (v := 1) hx hb dX5_take_31 (by decide) ?_
    refine lv_isub hx hb dX5_take_32 ?_
    obtain ⟨h3, hF⟩ := hF
    refine va_iald (n := (σ2.2.2.1 30)) (f := (σ2.2.2.2.1 30)) hx hb hK hP 30 19 (sm_aX30 σ2 α) (sm_yX30 α) h3 dX5_take_33 ?_
    exact W.iret (v := ((σ2.2.2.2.1 30) ((σ2.1 19) - 1).toNatClampNeg)) hx hb hr (fun t ht hW => ⟨⟨((σ2.2.2.2.1 30) ((σ2.1 19) - 1).toNatClampNeg), σ2, rfl, hF, (by unfold sm_B; rw [ht]; exact hP)⟩, hS.F ht⟩) hS.2.2 dX5_take_34
  · replace hF := hF.2 h1
    refine lv_iconst (v := 0) hx hb dX5_take_11 (by decide) ?_
    exact W.iret (v := 0) hx hb hr (fun t ht hW => ⟨⟨0, σ, rfl, hF, (by unfold sm_B; rw [ht]; exact hP)⟩, hS.F ht⟩) hS.2.2 dX5_take_12
theorem dX5_give_0 : decode cX5_give 0 = .ok (.aload_n 0, 1) := by decide +kernel
theorem dX5_give_1 : decode cX5_give 1 = .ok (.getfield 25, 3) := by decide +kernel
theorem dX5_give_4 : decode cX5_give 4 = .ok (.ldc2_w 29, 3) := by decide +kernel
theorem dX5_give_7 : decode cX5_give 7 = .ok (.lcmp, 1) := by decide +kernel
theorem dX5_give_8 : decode cX5_give 8 = .ok (.ifCond .ge 14, 3) := by decide +kernel
theorem dX5_give_11 : decode cX5_give 11 = .ok (.aload_n 0, 1) := by decide +kernel
theorem dX5_give_12 : decode cX5_give 12 = .ok (.getfield 15, 3) := by decide +kernel
theorem dX5_give_15 : decode cX5_give 15 = .ok (.aload_n 0, 1) := by decide +kernel
theorem dX5_give_16 : decode cX5_give 16 = .ok (.getfield 25, 3) := by decide +kernel
theorem dX5_give_19 : decode cX5_give 19 = .ok (.l2i, 1) := by decide +kernel
theorem dX5_give_20 : decode cX5_give 20 = .ok (.iload_n 1, 1) := by decide +kernel
theorem dX5_give_21 : decode cX5_give 21 = .ok (.iastore, 1) := by decide +kernel
theorem dX5_give_22 : decode cX5_give 22 = .ok (.aload_n 0, 1) := by decide +kernel
theorem dX5_give_23 : decode cX5_give 23 = .ok (.dup, 1) := by decide +kernel
theorem dX5_give_24 : decode cX5_give 24 = .ok (.getfield 25, 3) := by decide +kernel
theorem dX5_give_27 : decode cX5_give 27 = .ok (.lconst 1, 1) := by decide +kernel
theorem dX5_give_28 : decode cX5_give 28 = .ok (.ladd, 1) := by decide +kernel
theorem dX5_give_29 : decode cX5_give 29 = .ok (.putfield 25, 3) := by decide +kernel
theorem dX5_give_32 : decode cX5_give 32 = .ok (.return_, 1) := by decide +kernel
def wp_X5_give : List Cond := .code yX5_give cX5_give 2 none :: ([.fieldLink RX5 25 "SteadyMachine$Ports" "given" "J", .constantLong RX5 29 (1000), .fieldLink RX5 15 "SteadyMachine$Ports" "outs" "[I"] ++ wsX50)
theorem wq_X5_give : wp_X5_give.all goodWord = true := wa_c rfl (wa_a (by decide +kernel) uq_X5)
theorem wt_X5_give : GoodIn lw_tbl wp_X5_give := wm_c (List.mem_of_getElem? (i := 1083) (by decide +kernel)) rfl (wm_a (goodIn_r _ [428, 1084, 426] (by decide +kernel) (by decide +kernel)) ut_X5)
theorem wi_X5_give_X5 : ∀ w ∈ wsX50, w ∈ wp_X5_give := fun w h => List.mem_cons_of_mem _ (List.mem_append_right _ h)
set_option maxHeartbeats 4000000 in
set_option maxRecDepth 100000 in
theorem c_X5_give (l : Launch) (D : va_G) (sz t0 : Nat) (σ : sm_S) (α : sm_A) (p1 : Int32) (K : sm_S → Prop) (hF : mp_X5_give σ p1 K) : Met l yX5_give wp_X5_give { frames := 0, cells := 0, slots := 0, locals := 0 } (sm_P sm_wX sm_tX 37 D sz t0 σ α [.ref (α.1 5), .int p1]) (va_Qv K (sm_B sm_wX D α) (sm_a α 37 sz)) 0 0 (sm_a α 37 sz) := by
  refine Met.ofW (cc := cX5_give) (maxL := 2) (ret := none) (by decide) rfl ?_
  intro p e s m args below meth c s₁ B hml hv
  obtain ⟨rfl, hsz, hP, hK, hD0, hE⟩ := hv
  have hx := B.exec
  have hb := B.bytes
  have hr := B.returns
  have hts := atoms_spec (ws := wp_X5_give) B.pre
  have hown : s.vm.findClass RX5 = some m.cls := findClass_of_methodNamed B.named
  have hlocks := B.notSynchronized
  subst hsz
  have hD : sm_D (sm_a α 37 s.heap.size) α 37 := hD0.own
  have hA : ∀ q : Nat, s.heap.size ≤ q → sm_a α 37 s.heap.size q := fun q h => Or.inr h
  generalize hAe : sm_a α 37 s.heap.size = A at hD hA hE ⊢
  have hS : va_S A s.heap s.heap [] := va_S.rf
  have in_X5 : ∀ w ∈ wsX50, w ∈ wp_X5_give := wi_X5_give_X5
  have k_0 := hts (.fieldLink RX5 25 "SteadyMachine$Ports" "given" "J") (by decide +kernel)
  have k_1 := hts (.constantLong RX5 29 (1000)) (by decide +kernel)
  have k_2 := hts (.fieldLink RX5 15 "SteadyMachine$Ports" "outs" "[I") (by decide +kernel)
  have hl := lv_entry ([.ref (α.1 5), .int p1]) (n := 2) (Nat.le_of_ble_eq_true rfl)
  rw [lg_entry_eq]
  generalize (lg_sl ([.ref (α.1 5), .int p1]) ++ List.replicate (2 - (lg_sl ([.ref (α.1 5), .int p1])).length) Slot.unset).toArray = ls at hl ⊢
  have hl : lv_has ls 2 [(0, .ref (α.1 5)), (1, .int p1)] := hl
  have B22 : ∀ (σ : sm_S), mp_X5_give_22 K σ → sm_J p l e (headSpec wp_X5_give { frames := 0, cells := 0, slots := 0, locals := 0 }).room s m ([.ref (α.1 5), .int p1] : List Value).toArray below meth c (MQ below (va_Qv K (sm_B sm_wX D α) A) ([.ref (α.1 5), .int p1] : List Value).toArray s 0 0 A) D A 2 (sm_wX σ α) 22 [(0, .ref (α.1 5))] [] := by
    intro σ hF H locs ls hP hS hl
    unfold mp_X5_give_22 at hF
    refine lv_aload_n hx hb dX5_give_22 rfl (lv_at hl 0 rfl) ?_
    refine lv_dup hx hb dX5_give_23 rfl ?_
    refine va_get (D := D) (ci := 5) (v := .long (σ.2.1 0)) (C := RX5) (T := TX5) (N := 5) hx hb hts in_X5 hown hK hP 5 (sm_gX5 σ α) rfl 4 (by decide) k_0 (fun _ h9 => h9) rfl dX5_give_24 ?_
    refine lv_lconst (v := 1) hx hb dX5_give_27 (by decide) ?_
    refine lv_ladd hx hb dX5_give_28 ?_
    refine va_put (D := D) (ci := 5) (v := .long ((σ.2.1 0) + 1)) (ty := .long) (C := RX5) (T := TX5) (N := 5) hx hb hts in_X5 tyX5 tyX5_ok nmX5 hown hK hP (hD.to (sm_wX_m _ _)) hS 5 (sm_gX5 σ α) rfl 4 (by decide) k_0 (fun _ h9 => h9) rfl (by decide +kernel) rfl rfl (Nat.le_of_ble_eq_true rfl) dX5_give_29 (fun H locs hP _ hS => ?_)
    rw [sm_jX0] at hP
    obtain ⟨σ1, eσ1⟩ : ∃ x : sm_S, x = sm_j σ 0 ((σ.2.1 0) + 1) := ⟨_, rfl⟩
    replace hF := hF σ1 eσ1
    rw [← eσ1] at hP
    exact W.vret hx hb hr (fun t ht hW => ⟨⟨σ1, rfl, hF, (by unfold sm_B; rw [ht]; exact hP)⟩, hS.F ht⟩) hS.2.2 dX5_give_32
  unfold mp_X5_give at hF
  revert hP hS
  generalize hLo : ([] : List Loc) = locs
  suffices h9 : ∀ (H : Heap) (locs : List Loc), va_P D vwCl (sm_wX σ α) H → va_S A s.heap H locs → W p l e (headSpec wp_X5_give { frames := 0, cells := 0, slots := 0, locals := 0 }).room s m ([.ref (α.1 5), .int p1] : List Value).toArray below meth c H locs 0 0 (MQ below (va_Qv K (sm_B sm_wX D α) A) ([.ref (α.1 5), .int p1] : List Value).toArray s 0 0 A) (F0 m 0 ls []) from fun hP hS => h9 s.heap locs hP hS
  intro H locs hP hS
  refine lv_aload_n hx hb dX5_give_0 rfl (lv_at hl 0 rfl) ?_
  refine va_get (D := D) (ci := 5) (v := .long (σ.2.1 0)) (C := RX5) (T := TX5) (N := 5) hx hb hts in_X5 hown hK hP 5 (sm_gX5 σ α) rfl 4 (by decide) k_0 (fun _ h9 => h9) rfl dX5_give_1 ?_
  refine lv_ldc2 (v := 1000) hx hb hown k_1 dX5_give_4 ?_
  refine W.lcmp hx hb dX5_give_7 ?_
  refine lv_if_ge (tgt := 22) hx hb dX5_give_8 (by decide) (fun h2 => ?_) (fun h2 => ?_)
  · replace hF := hF.1 h2
    exact B22 σ hF H locs ls hP hS (lv_sub hl [0] rfl)
  · replace hF := hF.2 h2
    refine lv_aload_n hx hb dX5_give_11 rfl (lv_at hl 0 rfl) ?_
    refine va_get (D := D) (ci := 5) (v := .ref (α.1 31)) (C := RX5) (T := TX5) (N := 5) hx hb hts in_X5 hown hK hP 5 (sm_gX5 σ α) rfl 3 (by decide) k_2 (fun _ h9 => h9) rfl dX5_give_12 ?_
    refine lv_aload_n hx hb dX5_give_15 rfl (lv_at hl 0 rfl) ?_
    refine va_get (D := D) (ci := 5) (v := .long (σ.2.1 0)) (C := RX5) (T := TX5) (N := 5) hx hb hts in_X5 hown hK hP 5 (sm_gX5 σ α) rfl 4 (by decide) k_0 (fun _ h9 => h9) rfl dX5_give_16 ?_
    refine lv_l2i hx hb dX5_give_19 rfl ?_
    refine lv_iload_n hx hb dX5_give_20 rfl (lv_at hl 1 rfl) ?_
    obtain ⟨h3, hF⟩ := hF
    refine va_iast (n := (σ.2.2.1 31)) (f := (σ.2.2.2.1 31)) (x := p1) hx hb hK hP (hD.to (sm_wX_m _ _)) hS 31 20 (sm_aX31 σ α) (sm_yX31 α) h3 dX5_give_21 (fun H locs hP _ hS => ?_)
    rw [sm_rX31] at hP
    obtain ⟨σ4, eσ4⟩ : ∃ x : sm_S, x = sm_r σ 31 (upd (σ.2.2.2.1 31) ((σ.2.1 0).toInt32).toNatClampNeg p1) := ⟨_, rfl⟩
    replace hF := hF σ4 eσ4
    rw [← eσ4] at hP
    exact B22 σ4 hF H locs ls hP hS (lv_sub hl [0] rfl)
