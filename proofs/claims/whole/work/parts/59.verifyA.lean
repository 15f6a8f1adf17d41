theorem dX8_isClass_0 : decode cX8_isClass 0 = .ok (.iload_n 0, 1) := by decide +kernel
theorem dX8_isClass_1 : decode cX8_isClass 1 = .ok (.iconst 1, 1) := by decide +kernel
theorem dX8_isClass_2 : decode cX8_isClass 2 = .ok (.if_icmp .lt 13, 3) := by decide +kernel
theorem dX8_isClass_5 : decode cX8_isClass 5 = .ok (.iload_n 0, 1) := by decide +kernel
theorem dX8_isClass_6 : decode cX8_isClass 6 = .ok (.bipush 32, 2) := by decide +kernel
theorem dX8_isClass_8 : decode cX8_isClass 8 = .ok (.if_icmp .gt 7, 3) := by decide +kernel
theorem dX8_isClass_11 : decode cX8_isClass 11 = .ok (.iconst 1, 1) := by decide +kernel
theorem dX8_isClass_12 : decode cX8_isClass 12 = .ok (.goto 4, 3) := by decide +kernel
theorem dX8_isClass_15 : decode cX8_isClass 15 = .ok (.iconst 0, 1) := by decide +kernel
theorem dX8_isClass_16 : decode cX8_isClass 16 = .ok (.ireturn, 1) := by decide +kernel
def wp_X8_isClass : List Cond := .code yX8_isClass cX8_isClass 1 (some .boolean) :: []
theorem wq_X8_isClass : wp_X8_isClass.all goodWord = true := wa_c rfl (by decide +kernel)
theorem wt_X8_isClass : GoodIn lw_tbl wp_X8_isClass := wm_c (List.mem_of_getElem? (i := 763) (by decide +kernel)) rfl (goodIn_r _ [] (by decide +kernel) (by decide +kernel))
set_option maxHeartbeats 4000000 in
set_option maxRecDepth 100000 in
theorem c_X8_isClass (l : Launch) (D : va_G) (sz t0 : Nat) (σ : sm_S) (α : sm_A) (p1 : Int32) (K : Int32 → sm_S → Prop) (hF : mp_X8_isClass σ p1 K) : Met l yX8_isClass wp_X8_isClass { frames := 0, cells := 0, slots := 0, locals := 0 } (sm_P sm_wX sm_tX 37 D sz t0 σ α [.int p1]) (va_Qi K (sm_B sm_wX D α) (sm_a α 37 sz)) 0 0 (sm_a α 37 sz) := by
  refine Met.ofW (cc := cX8_isClass) (maxL := 1) (ret := (some .boolean)) (by decide) rfl ?_
  intro p e s m args below meth c s₁ B hml hv
  obtain ⟨rfl, hsz, hP, hK, hD0, hE⟩ := hv
  have hx := B.exec
  have hb := B.bytes
  have hr := B.returns
  have hts := atoms_spec (ws := wp_X8_isClass) B.pre
  have hown : s.vm.findClass RX8 = some m.cls := findClass_of_methodNamed B.named
  have hlocks := B.notSynchronized
  subst hsz
  have hD : sm_D (sm_a α 37 s.heap.size) α 37 := hD0.own
  have hA : ∀ q : Nat, s.heap.size ≤ q → sm_a α 37 s.heap.size q := fun q h => Or.inr h
  generalize hAe : sm_a α 37 s.heap.size = A at hD hA hE ⊢
  have hS : va_S A s.heap s.heap [] := va_S.rf
  have hl := lv_entry ([.int p1]) (n := 1) (Nat.le_of_ble_eq_true rfl)
  rw [lg_entry_eq]
  generalize (lg_sl ([.int p1]) ++ List.replicate (1 - (lg_sl ([.int p1])).length) Slot.unset).toArray = ls at hl ⊢
  have hl : lv_has ls 1 [(0, .int p1)] := hl
  have B16 : ∀ (σ : sm_S) (y0 : Int32), mp_X8_isClass_16 K σ y0 → sm_J p l e (headSpec wp_X8_isClass { frames := 0, cells := 0, slots := 0, locals := 0 }).room s m ([.int p1] : List Value).toArray below meth c (MQ below (va_Qi K (sm_B sm_wX D α) A) ([.int p1] : List Value).toArray s 0 0 A) D A 1 (sm_wX σ α) 16 [] [.int y0] := by
    intro σ y0 hF H locs ls hP hS hl
    unfold mp_X8_isClass_16 at hF
    obtain ⟨h1, hF⟩ := hF
    exact W.zret (v := y0) hx hb hr h1.1 (fun t ht hW => ⟨⟨y0, σ, rfl, hF, (by unfold sm_B; rw [ht]; exact hP)⟩, hS.F ht⟩) hS.2.2 dX8_isClass_16
  have B15 : ∀ (σ : sm_S), mp_X8_isClass_15 K σ → sm_J p l e (headSpec wp_X8_isClass { frames := 0, cells := 0, slots := 0, locals := 0 }).room s m ([.int p1] : List Value).toArray below meth c (MQ below (va_Qi K (sm_B sm_wX D α) A) ([.int p1] : List Value).toArray s 0 0 A) D A 1 (sm_wX σ α) 15 [] [] := by
    intro σ hF H locs ls hP hS hl
    unfold mp_X8_isClass_15 at hF
    refine lv_iconst (v := 0) hx hb dX8_isClass_15 (by decide) ?_
    exact B16 σ 0 hF H locs ls hP hS (lv_sub hl [] rfl)
  unfold mp_X8_isClass at hF
  revert hP hS
  generalize hLo : ([] : List Loc) = locs
  suffices h9 : ∀ (H : Heap) (locs : List Loc), va_P D vwCl (sm_wX σ α) H → va_S A s.heap H locs → W p l e (headSpec wp_X8_isClass { frames := 0, cells := 0, slots := 0, locals := 0 }).room s m ([.int p1] : List Value).toArray below meth c H locs 0 0 (MQ below (va_Qi K (sm_B sm_wX D α) A) ([.int p1] : List Value).toArray s 0 0 A) (F0 m 0 ls []) from fun hP hS => h9 s.heap locs hP hS
  intro H locs hP hS
  refine lv_iload_n hx hb dX8_isClass_0 rfl (lv_at hl 0 rfl) ?_
  refine lv_iconst (v := 1) hx hb dX8_isClass_1 (by decide) ?_
  refine lv_icmp_lt (tgt := 15) hx hb dX8_isClass_2 (by decide) (fun h2 => ?_) (fun h2 => ?_)
  · replace hF := hF.1 h2
    exact B15 σ hF H locs ls hP hS (lv_sub hl [] rfl)
  · replace hF := hF.2 h2
    refine lv_iload_n hx hb dX8_isClass_5 rfl (lv_at hl 0 rfl) ?_
    refine lv_bipush (v := 32) hx hb dX8_isClass_6 (by decide) ?_
    refine lv_icmp_gt (tgt := 15) hx hb dX8_isClass_8 (by decide) (fun h3 => ?_) (fun h3 => ?_)
    · replace hF := hF.1 h3
      exact B15 σ hF H locs ls hP hS (lv_sub hl [] rfl)
    · replace hF := hF.2 h3
      refine lv_iconst (v := 1) hx hb dX8_isClass_11 (by decide) ?_
      refine lv_goto (tgt := 16) hx hb dX8_isClass_12 (by decide) ?_
      exact B16 σ 1 hF H locs ls hP hS (lv_sub hl [] rfl)
theorem dX8_isReference_0 : decode cX8_isReference 0 = .ok (.iload_n 0, 1) := by decide +kernel
theorem dX8_isReference_1 : decode cX8_isReference 1 = .ok (.ifCond .eq 13, 3) := by decide +kernel
theorem dX8_isReference_4 : decode cX8_isReference 4 = .ok (.iload_n 0, 1) := by decide +kernel
theorem dX8_isReference_5 : decode cX8_isReference 5 = .ok (.bipush 99, 2) := by decide +kernel
theorem dX8_isReference_7 : decode cX8_isReference 7 = .ok (.if_icmp .eq 7, 3) := by decide +kernel
theorem dX8_isReference_10 : decode cX8_isReference 10 = .ok (.iconst 1, 1) := by decide +kernel
theorem dX8_isReference_11 : decode cX8_isReference 11 = .ok (.goto 4, 3) := by decide +kernel
theorem dX8_isReference_14 : decode cX8_isReference 14 = .ok (.iconst 0, 1) := by decide +kernel
theorem dX8_isReference_15 : decode cX8_isReference 15 = .ok (.ireturn, 1) := by decide +kernel
def wp_X8_isReference : List Cond := .code yX8_isReference cX8_isReference 1 (some .boolean) :: []
theorem wq_X8_isReference : wp_X8_isReference.all goodWord = true := wa_c rfl (by decide +kernel)
theorem wt_X8_isReference : GoodIn lw_tbl wp_X8_isReference := wm_c (List.mem_of_getElem? (i := 760) (by decide +kernel)) rfl (goodIn_r _ [] (by decide +kernel) (by decide +kernel))
set_option maxHeartbeats 4000000 in
set_option maxRecDepth 100000 in
theorem c_X8_isReference (l : Launch) (D : va_G) (sz t0 : Nat) (σ : sm_S) (α : sm_A) (p1 : Int32) (K : Int32 → sm_S → Prop) (hF : mp_X8_isReference σ p1 K) : Met l yX8_isReference wp_X8_isReference { frames := 0, cells := 0, slots := 0, locals := 0 } (sm_P sm_wX sm_tX 37 D sz t0 σ α [.int p1]) (va_Qi K (sm_B sm_wX D α) (sm_a α 37 sz)) 0 0 (sm_a α 37 sz) := by
  refine Met.ofW (cc := cX8_isReference) (maxL := 1) (ret := (some .boolean)) (by decide) rfl ?_
  intro p e s m args below meth c s₁ B hml hv
  obtain ⟨rfl, hsz, hP, hK, hD0, hE⟩ := hv
  have hx := B.exec
  have hb := B.bytes
  have hr := B.returns
  have hts := atoms_spec (ws := wp_X8_isReference) B.pre
  have hown : s.vm.findClass RX8 = some m.cls := findClass_of_methodNamed B.named
  have hlocks := B.notSynchronized
  subst hsz
  have hD : sm_D (sm_a α 37 s.heap.size) α 37 := hD0.own
  have hA : ∀ q : Nat, s.heap.size ≤ q → sm_a α 37 s.heap.size q := fun q h => Or.inr h
  generalize hAe : sm_a α 37 s.heap.size = A at hD hA hE ⊢
  have hS : va_S A s.heap s.heap [] := va_S.rf
  have hl := lv_entry ([.int p1]) (n := 1) (Nat.le_of_ble_eq_true rfl)
  rw [lg_entry_eq]
  generalize (lg_sl ([.int p1]) ++ List.replicate (1 - (lg_sl ([.int p1])).length) Slot.unset).toArray = ls at hl ⊢
  have hl : lv_has ls 1 [(0, .int p1)] := hl
  have B15 : ∀ (σ : sm_S) (y0 : Int32), mp_X8_isReference_15 K σ y0 → sm_J p l e (headSpec wp_X8_isReference { frames := 0, cells := 0, slots := 0, locals := 0 }).room s m ([.int p1] : List Value).toArray below meth c (MQ below (va_Qi K (sm_B sm_wX D α) A) ([.int p1] : List Value).toArray s 0 0 A) D A 1 (sm_wX σ α) 15 [] [.int y0] := by
    intro σ y0 hF H locs ls hP hS hl
    unfold mp_X8_isReference_15 at hF
    obtain ⟨h1, hF⟩ := hF
    exact W.zret (v := y0) hx hb hr h1.1 (fun t ht hW => ⟨⟨y0, σ, rfl, hF, (by unfold sm_B; rw [ht]; exact hP)⟩, hS.F ht⟩) hS.2.2 dX8_isReference_15
  have B14 : ∀ (σ : sm_S), mp_X8_isReference_14 K σ → sm_J p l e (headSpec wp_X8_isReference { frames := 0, cells := 0, slots := 0, locals := 0 }).room s m ([.int p1] : List Value).toArray below meth c (MQ below (va_Qi K (sm_B sm_wX D α) A) ([.int p1] : List Value).toArray s 0 0 A) D A 1 (sm_wX σ α) 14 [] [] := by
    intro σ hF H locs ls hP hS hl
    unfold mp_X8_isReference_14 at hF
    refine lv_iconst (v := 0) hx hb dX8_isReference_14 (by decide) ?_
    exact B15 σ 0 hF H locs ls hP hS (lv_sub hl [] rfl)
  unfold mp_X8_isReference at hF
  revert hP hS
  generalize hLo : ([] : List Loc) = locs
  suffices h9 : ∀ (H : Heap) (locs : List Loc), va_P D vwCl (sm_wX σ α) H → va_S A s.heap H locs → W p l e (headSpec wp_X8_isReference { frames := 0, cells := 0, slots := 0, locals := 0 }).room s m ([.int p1] : List Value).toArray below meth c H locs 0 0 (MQ below (va_Qi K (sm_B sm_wX D α) A) ([.int p1] : List Value).toArray s 0 0 A) (F0 m 0 ls []) from fun hP hS => h9 s.heap locs hP hS
  intro H locs hP hS
  refine lv_iload_n hx hb dX8_isReference_0 rfl (lv_at hl 0 rfl) ?_
  refine lv_if_eq (tgt := 14) hx hb dX8_isReference_1 (by decide) (fun h2 => ?_) (fun h2 => ?_)
  · replace hF := hF.1 h2
    exact B14 σ hF H locs ls hP hS (lv_sub hl [] rfl)
  · replace hF := hF.2 h2
    refine lv_iload_n hx hb dX8_isReference_4 rfl (lv_at hl 0 rfl) ?_
    refine lv_bipush (v := 99) hx hb dX8_isReference_5 (by decide) ?_
    refine lv_icmp_eq (tgt := 14) hx hb dX8_isReference_7 (by decide) (fun h3 => ?_) (fun h3 => ?_)
    · replace hF := hF.1 h3
      exact B14 σ hF H locs ls hP hS (lv_sub hl [] rfl)
    · replace hF := hF.2 h3
      refine lv_iconst (v := 1) hx hb dX8_isReference_10 (by decide) ?_
      refine lv_goto (tgt := 15) hx hb dX8_isReference_11 (by decide) ?_
      exact B15 σ 1 hF H locs ls hP hS (lv_sub hl [] rfl)
theorem dX8_meet_0 : decode cX8_meet 0 = .ok (.iload_n 1, 1) := by decide +kernel
theorem dX8_meet_1 : decode cX8_meet 1 = .ok (.iload_n 2, 1) := by decide +kernel
theorem dX8_meet_2 : decode cX8_meet 2 = .ok (.if_icmp .ne 5, 3) := by decide +kernel
theorem dX8_meet_5 : decode cX8_meet 5 = .ok (.iload_n 1, 1) := by decide +kernel
theorem dX8_meet_6 : decode cX8_meet 6 = .ok (.ireturn, 1) := by decide +kernel
theorem dX8_meet_7 : decode cX8_meet 7 = .ok (.iload_n 1, 1) := by decide +kernel
theorem dX8_meet_8 : decode cX8_meet 8 = .ok (.invokestatic 147, 3) := by decide +kernel
theorem dX8_meet_11 : decode cX8_meet 11 = .ok (.ifCond .eq 10, 3) := by decide +kernel
theorem dX8_meet_14 : decode cX8_meet 14 = .ok (.iload_n 2, 1) := by decide +kernel
theorem dX8_meet_15 : decode cX8_meet 15 = .ok (.invokestatic 147, 3) := by decide +kernel
theorem dX8_meet_18 : decode cX8_meet 18 = .ok (.ifCond .ne 6, 3) := by decide +kernel
theorem dX8_meet_21 : decode cX8_meet 21 = .ok (.bipush 99, 2) := by decide +kernel
theorem dX8_meet_23 : decode cX8_meet 23 = .ok (.ireturn, 1) := by decide +kernel
theorem dX8_meet_24 : decode cX8_meet 24 = .ok (.iload_n 1, 1) := by decide +kernel
theorem dX8_meet_25 : decode cX8_meet 25 = .ok (.bipush 97, 2) := by decide +kernel
theorem dX8_meet_27 : decode cX8_meet 27 = .ok (.if_icmp .ne 5, 3) := by decide +kernel
theorem dX8_meet_30 : decode cX8_meet 30 = .ok (.iload_n 2, 1) := by decide +kernel
theorem dX8_meet_31 : decode cX8_meet 31 = .ok (.ireturn, 1) := by decide +kernel
theorem dX8_meet_32 : decode cX8_meet 32 = .ok (.iload_n 2, 1) := by decide +kernel
theorem dX8_meet_33 : decode cX8_meet 33 = .ok (.bipush 97, 2) := by decide +kernel
theorem dX8_meet_35 : decode cX8_meet 35 = .ok (.if_icmp .ne 5, 3) := by decide +kernel
theorem dX8_meet_38 : decode cX8_meet 38 = .ok (.iload_n 1, 1) := by decide +kernel
theorem dX8_meet_39 : decode cX8_meet 39 = .ok (.ireturn, 1) := by decide +kernel
theorem dX8_meet_40 : decode cX8_meet 40 = .ok (.iload_n 1, 1) := by decide +kernel
theorem dX8_meet_41 : decode cX8_meet 41 = .ok (.invokestatic 151, 3) := by decide +kernel
theorem dX8_meet_44 : decode cX8_meet 44 = .ok (.ifCond .eq 26, 3) := by decide +kernel
theorem dX8_meet_47 : decode cX8_meet 47 = .ok (.iload_n 2, 1) := by decide +kernel
theorem dX8_meet_48 : decode cX8_meet 48 = .ok (.invokestatic 151, 3) := by decide +kernel
theorem dX8_meet_51 : decode cX8_meet 51 = .ok (.ifCond .eq 19, 3) := by decide +kernel
theorem dX8_meet_54 : decode cX8_meet 54 = .ok (.aload_n 0, 1) := by decide +kernel
theorem dX8_meet_55 : decode cX8_meet 55 = .ok (.getfield 36, 3) := by decide +kernel
theorem dX8_meet_58 : decode cX8_meet 58 = .ok (.iload_n 1, 1) := by decide +kernel
theorem dX8_meet_59 : decode cX8_meet 59 = .ok (.iconst 1, 1) := by decide +kernel
theorem dX8_meet_60 : decode cX8_meet 60 = .ok (.isub, 1) := by decide +kernel
theorem dX8_meet_61 : decode cX8_meet 61 = .ok (.iload_n 2, 1) := by decide +kernel
theorem dX8_meet_62 : decode cX8_meet 62 = .ok (.iconst 1, 1) := by decide +kernel
theorem dX8_meet_63 : decode cX8_meet 63 = .ok (.isub, 1) := by decide +kernel
theorem dX8_meet_64 : decode cX8_meet 64 = .ok (.invokevirtual 154, 3) := by decide +kernel
theorem dX8_meet_67 : decode cX8_meet 67 = .ok (.goto 4, 3) := by decide +kernel
theorem dX8_meet_70 : decode cX8_meet 70 = .ok (.iconst (-1), 1) := by decide +kernel
theorem dX8_meet_71 : decode cX8_meet 71 = .ok (.istore_n 3, 1) := by decide +kernel
theorem dX8_meet_72 : decode cX8_meet 72 = .ok (.iload_n 3, 1) := by decide +kernel
theorem dX8_meet_73 : decode cX8_meet 73 = .ok (.iconst (-1), 1) := by decide +kernel
theorem dX8_meet_74 : decode cX8_meet 74 = .ok (.if_icmp .ne 8, 3) := by decide +kernel
theorem dX8_meet_77 : decode cX8_meet 77 = .ok (.bipush 98, 2) := by decide +kernel
theorem dX8_meet_79 : decode cX8_meet 79 = .ok (.goto 6, 3) := by decide +kernel
theorem dX8_meet_82 : decode cX8_meet 82 = .ok (.iload_n 3, 1) := by decide +kernel
theorem dX8_meet_83 : decode cX8_meet 83 = .ok (.iconst 1, 1) := by decide +kernel
theorem dX8_meet_84 : decode cX8_meet 84 = .ok (.iadd, 1) := by decide +kernel
theorem dX8_meet_85 : decode cX8_meet 85 = .ok (.ireturn, 1) := by decide +kernel
def wp_X8_meet : List Cond := .code yX8_meet cX8_meet 4 (some .int) :: (((([.fieldLink RX8 36 "SteadyMachine$Verifier" "classes" "LSteadyMachine$Classes;"] ++ (va_wsS RX8 147 yX8_isReference wp_X8_isReference)) ++ (va_wsS RX8 151 yX8_isClass wp_X8_isClass)) ++ (wsV RX8 154 RX0 yX0_lowestAbove wp_X0_lowestAbove)) ++ wsX80)
theorem wq_X8_meet : wp_X8_meet.all goodWord = true := wa_c rfl (wa_a (wa_a (wa_a (wa_a (by decide +kernel) (wa_S wq_X8_isReference)) (wa_S wq_X8_isClass)) (wa_V wq_X0_lowestAbove)) uq_X8)
theorem wt_X8_meet : GoodIn lw_tbl wp_X8_meet := wm_c (List.mem_of_getElem? (i := 757) (by decide +kernel)) rfl (wm_a (wm_a (wm_a (wm_a (goodIn_r _ [376] (by decide +kernel) (by decide +kernel)) (wm_a (goodIn_r _ [758, 759, 142] (by decide +kernel) (by decide +kernel)) wt_X8_isReference)) (wm_a (goodIn_r _ [761, 762, 142] (by decide +kernel) (by decide +kernel)) wt_X8_isClass)) (wm_a (goodIn_r _ [764, 765, 766, 138] (by decide +kernel) (by decide +kernel)) wt_X0_lowestAbove)) ut_X8)
theorem wg_X8_meet_X8_isReference_147 : GoodIn wp_X8_meet (va_wsS RX8 147 yX8_isReference wp_X8_isReference) := goodIn_sub (fun w h => List.mem_cons_of_mem _ (List.mem_append_left _ (List.mem_append_left _ (List.mem_append_left _ (List.mem_append_right _ h))))) (wa_S wq_X8_isReference)
theorem wg_X8_meet_X8_isClass_151 : GoodIn wp_X8_meet (va_wsS RX8 151 yX8_isClass wp_X8_isClass) := goodIn_sub (fun w h => List.mem_cons_of_mem _ (List.mem_append_left _ (List.mem_append_left _ (List.mem_append_right _ h)))) (wa_S wq_X8_isClass)
theorem wg_X8_meet_X0_lowestAbove_154 : GoodIn wp_X8_meet (wsV RX8 154 RX0 yX0_lowestAbove wp_X0_lowestAbove) := goodIn_sub (fun w h => List.mem_cons_of_mem _ (List.mem_append_left _ (List.mem_append_right _ h))) (wa_V wq_X0_lowestAbove)
theorem wi_X8_meet_X8 : ∀ w ∈ wsX80, w ∈ wp_X8_meet := fun w h => List.mem_cons_of_mem _ (List.mem_append_right _ h)
set_option maxHeartbeats 4000000 in
set_option maxRecDepth 100000 in
theorem c_X8_meet (l : Launch) (D : va_G) (sz t0 : Nat) (σ : sm_S) (α : sm_A) (p1 : Int32) (p2 : Int32) (K : Int32 → sm_S → Prop) (hF : mp_X8_meet σ p1 p2 K) : Met l yX8_meet wp_X8_meet { frames := 1, cells := 0, slots := 0, locals := 25 } (sm_P sm_wX sm_tX 37 D sz t0 σ α [.ref (α.1 8), .int p1, .int p2]) (va_Qi K (sm_B sm_wX D α) (sm_a α 37 sz)) 0 0 (sm_a α 37 sz) := by
  refine Met.ofW (cc := cX8_meet) (maxL := 4) (ret := (some .int)) (by decide) rfl ?_
  intro p e s m args below meth c s₁ B hml hv
  obtain ⟨rfl, hsz, hP, hK, hD0, hE⟩ := hv
  have hx := B.exec
  have hb := B.bytes
  have hr := B.returns
  have hts := atoms_spec (ws := wp_X8_meet) B.pre
  have hown : s.vm.findClass RX8 = some m.cls := findClass_of_methodNamed B.named
  have hlocks := B.notSynchronized
  subst hsz
  have hD : sm_D (sm_a α 37 s.heap.size) α 37 := hD0.own
  have hA : ∀ q : Nat, s.heap.size ≤ q → sm_a α 37 s.heap.size q := fun q h => Or.inr h
  generalize hAe : sm_a α 37 s.heap.size = A at hD hA hE ⊢
  have hS : va_S A s.heap s.heap [] := va_S.rf
  have in_X8 : ∀ w ∈ wsX80, w ∈ wp_X8_meet := wi_X8_meet_X8
  have k_0 := hts (.fieldLink RX8 36 "SteadyMachine$Verifier" "classes" "LSteadyMachine$Classes;") (by decide +kernel)
  have hl := lv_entry ([.ref (α.1 8), .int p1, .int p2]) (n := 4) (Nat.le_of_ble_eq_true rfl)
  rw [lg_entry_eq]
  generalize (lg_sl ([.ref (α.1 8), .int p1, .int p2]) ++ List.replicate (4 - (lg_sl ([.ref (α.1 8), .int p1, .int p2])).length) Slot.unset).toArray = ls at hl ⊢
  have hl : lv_has ls 4 [(0, .ref (α.1 8)), (1, .int p1), (2, .int p2)] := hl
  have B85 : ∀ (σ : sm_S) (y0 : Int32), mp_X8_meet_85 K σ y0 → sm_J p l e (headSpec wp_X8_meet { frames := 1, cells := 0, slots := 0, locals := 25 }).room s m ([.ref (α.1 8), .int p1, .int p2] : List Value).toArray below meth c (MQ below (va_Qi K (sm_B sm_wX D α) A) ([.ref (α.1 8), .int p1, .int p2] : List Value).toArray s 0 0 A) D A 4 (sm_wX σ α) 85 [] [.int y0] := by
    intro σ y0 hF H locs ls hP hS hl
    unfold mp_X8_meet_85 at hF
    exact W.iret (v := y0) hx hb hr (fun t ht hW => ⟨⟨y0, σ, rfl, hF, (by unfold sm_B; rw [ht]; exact hP)⟩, hS.F ht⟩) hS.2.2 dX8_meet_85
  have B71 : ∀ (σ : sm_S) (y0 : Int32), mp_X8_meet_71 K σ y0 → sm_J p l e (headSpec wp_X8_meet { frames := 1, cells := 0, slots := 0, locals := 25 }).room s m ([.ref (α.1 8), .int p1, .int p2] : List Value).toArray below meth c (MQ below (va_Qi K (sm_B sm_wX D α) A) ([.ref (α.1 8), .int p1, .int p2] : List Value).toArray s 0 0 A) D A 4 (sm_wX σ α) 71 [] [.int y0] := by
    intro σ y0 hF H locs ls hP hS hl
    unfold mp_X8_meet_71 at hF
    refine lv_istore_n (lv' := [(3, .int y0)]) hx hb dX8_meet_71 rfl hl (by decide) rfl (fun ls hl => ?_)
    refine lv_iload_n hx hb dX8_meet_72 rfl (lv_at hl 0 rfl) ?_
    refine lv_iconst (v := -1) hx hb dX8_meet_73 (by decide) ?_
    refine lv_icmp_ne (tgt := 82) hx hb dX8_meet_74 (by decide) (fun h1 => ?_) (fun h1 => ?_)
    · replace hF := hF.1 h1
      refine lv_iload_n hx hb dX8_meet_82 rfl (lv_at hl 0 rfl) ?_
      refine lv_iconst (v := 1) hx hb dX8_meet_83 (by decide) ?_
      refine lv_iadd hx hb dX8_meet_84 ?_
      exact B85 σ (y0 + 1) hF H locs ls hP hS (lv_sub hl [] rfl)
    · replace hF := hF.2 h1
      refine lv_bipush (v := 98) hx hb dX8_meet_77 (by decide) ?_
      refine lv_goto (tgt := 85) hx hb dX8_meet_79 (by decide) ?_
      exact B85 σ 98 hF H locs ls hP hS (lv_sub hl [] rfl)
  have B70 : ∀ (σ : sm_S), mp_X8_meet_70 K σ → sm_J p l e (headSpec wp_X8_meet { frames := 1, cells := 0, slots := 0, locals := 25 }).room s m ([.ref (α.1 8), .int p1, .int p2] : List Value).toArray below meth c (MQ below (va_Qi K (sm_B sm_wX D α) A) ([.ref (α.1 8), .int p1, .int p2] : List Value).toArray s 0 0 A) D A 4 (sm_wX σ α) 70 [] [] := by
    intro σ hF H locs ls hP hS hl
    unfold mp_X8_meet_70 at hF
    refine lv_iconst (v := -1) hx hb dX8_meet_70 (by decide) ?_
    exact B71 σ (-1) hF H locs ls hP hS (lv_sub hl [] rfl)
  have B21 : ∀ (σ : sm_S), mp_X8_meet_21 K σ → sm_J p l e (headSpec wp_X8_meet { frames := 1, cells := 0, slots := 0, locals := 25 }).room s m ([.ref (α.1 8), .int p1, .int p2] : List Value).toArray below meth c (MQ below (va_Qi K (sm_B sm_wX D α) A) ([.ref (α.1 8), .int p1, .int p2] : List Value).toArray s 0 0 A) D A 4 (sm_wX σ α) 21 [] [] := by
    intro σ hF H locs ls hP hS hl
    unfold mp_X8_meet_21 at hF
    refine lv_bipush (v := 99) hx hb dX8_meet_21 (by decide) ?_
    exact W.iret (v := 99) hx hb hr (fun t ht hW => ⟨⟨99, σ, rfl, hF, (by unfold sm_B; rw [ht]; exact hP)⟩, hS.F ht⟩) hS.2.2 dX8_meet_23
  unfold mp_X8_meet at hF
  revert hP hS
  generalize hLo : ([] : List Loc) = locs
  suffices h9 : ∀ (H : Heap) (locs : List Loc), va_P D vwCl (sm_wX σ α) H → va_S A s.heap H locs → W p l e (headSpec wp_X8_meet { frames := 1, cells := 0, slots := 0, locals := 25 }).room s m ([.ref (α.1 8), .int p1, .int p2] : List Value).toArray below meth c H locs 0 0 (MQ below (va_Qi K (sm_B sm_wX D α) A) ([.ref (α.1 8), .int p1, .int p2] : List Value).toArray s 0 0 A) (F0 m 0 ls []) from fun hP hS => h9 s.heap locs hP hS
  intro H locs hP hS
  refine lv_iload_n hx hb dX8_meet_0 rfl (lv_at hl 1 rfl) ?_
  refine lv_iload_n hx hb dX8_meet_1 rfl (lv_at hl 2 rfl) ?_
  refine lv_icmp_ne (tgt := 7) hx hb dX8_meet_2 (by decide) (fun h2 => ?_) (fun h2 => ?_)
  · replace hF := hF.1 h2
    refine lv_iload_n hx hb dX8_meet_7 rfl (lv_at hl 1 rfl) ?_
    refine sm_si (As := [.int p1]) (rest := []) hP hK hD hE hS hA ⟨hx, hb, hml, hown, hts⟩ hl.1 (c_X8_isReference l D H.size t0 σ α p1 _ hF) (va_cwS 1 hts wg_X8_meet_X8_isReference_147 rfl rfl rfl (by decide +kernel) ⟨Nat.le_of_ble_eq_true rfl, Nat.le_of_ble_eq_true rfl⟩) rfl rfl (Nat.le_of_ble_eq_true rfl) dX8_meet_8 ⟨Nat.zero_le _, Nat.zero_le _⟩ (fun r4 σ3 H locs hF hP hS => ?_)
    refine lv_if_eq (tgt := 21) hx hb dX8_meet_11 (by decide) (fun h5 => ?_) (fun h5 => ?_)
    · replace hF := hF.1 h5
      exact B21 σ3 hF H locs ls hP hS (lv_sub hl [] rfl)
    · replace hF := hF.2 h5
      refine lv_iload_n hx hb dX8_meet_14 rfl (lv_at hl 2 rfl) ?_
      refine sm_si (As := [.int p2]) (rest := []) hP hK hD hE hS hA ⟨hx, hb, hml, hown, hts⟩ hl.1 (c_X8_isReference l D H.size t0 σ3 α p2 _ hF) (va_cwS 1 hts wg_X8_meet_X8_isReference_147 rfl rfl rfl (by decide +kernel) ⟨Nat.le_of_ble_eq_true rfl, Nat.le_of_ble_eq_true rfl⟩) rfl rfl (Nat.le_of_ble_eq_true rfl) dX8_meet_15 ⟨Nat.zero_le _, Nat.zero_le _⟩ (fun r7 σ6 H locs hF hP hS => ?_)
      refine lv_if_ne (tgt := 24) hx hb dX8_meet_18 (by decide) (fun h8 => ?_) (fun h8 => ?_)
      · replace hF := hF.1 h8
        refine lv_iload_n hx hb dX8_meet_24 rfl (lv_at hl 1 rfl) ?_
        refine lv_bipush (v := 97) hx hb dX8_meet_25 (by decide) ?_
        refine lv_icmp_ne (tgt := 32) hx hb dX8_meet_27 (by decide) (fun h9 => ?_) (fun h9 => ?_)
        · replace hF := hF.1 h9
          refine lv_iload_n hx hb dX8_meet_32 rfl (lv_at hl 2 rfl) ?_
          refine lv_bipush (v := 97) hx hb dX8_meet_33 (by decide) ?_
          refine lv_icmp_ne (tgt := 40) hx hb dX8_meet_35 (by decide) (fun h10 => ?_) (fun h10 => ?_)
          · replace hF := hF.1 h10
            refine lv_iload_n hx hb dX8_meet_40 rfl (lv_at hl 1 rfl) ?_
            refine sm_si (As := [.int p1]) (rest := []) hP hK hD hE hS hA ⟨hx, hb, hml, hown, hts⟩ hl.1 (c_X8_isClass l D H.size t0 σ6 α p1 _ hF) (va_cwS 1 hts wg_X8_meet_X8_isClass_151 rfl rfl rfl (by decide +kernel) ⟨Nat.le_of_ble_eq_true rfl, Nat.le_of_ble_eq_true rfl⟩) rfl rfl (Nat.le_of_ble_eq_true rfl) dX8_meet_41 ⟨Nat.zero_le _, Nat.zero_le _⟩ (fun r12 σ11 H locs hF hP hS => ?_)
            refine lv_if_eq (tgt := 70) hx hb dX8_meet_44 (by decide) (fun h13 => ?_) (fun h13 => ?_)
            · replace hF := hF.1 h13
              exact B70 σ11 hF H locs ls hP hS (lv_sub hl [] rfl)
            · replace hF := hF.2 h13
              refine lv_iload_n hx hb dX8_meet_47 rfl (lv_at hl 2 rfl) ?_
              refine sm_si (As := [.int p2]) (rest := []) hP hK hD hE hS hA ⟨hx, hb, hml, hown, hts⟩ hl.1 (c_X8_isClass l D H.size t0 σ11 α p2 _ hF) (va_cwS 1 hts wg_X8_meet_X8_isClass_151 rfl rfl rfl (by decide +kernel) ⟨Nat.le_of_ble_eq_true rfl, Nat.le_of_ble_eq_true rfl⟩) rfl rfl (Nat.le_of_ble_eq_true rfl) dX8_meet_48 ⟨Nat.zero_le _, Nat.zero_le _⟩ (fun r15 σ14 H locs hF hP hS => ?_)
              refine lv_if_eq (tgt := 70) hx hb dX8_meet_51 (by decide) (fun h16 => ?_) (fun h16 => ?_)
              · replace hF := hF.1 h16
                exact B70 σ14 hF H locs ls hP hS (lv_sub hl [] rfl)
              · replace hF := hF.2 h16
                refine lv_aload_n hx hb dX8_meet_54 rfl (lv_at hl 0 rfl) ?_
                refine va_get (D := D) (ci := 8) (v := .ref (α.1 0)) (C := RX8) (T := TX8) (N := 13) hx hb hts in_X8 hown hK hP 8 (sm_gX8 σ14 α) rfl 1 (by decide) k_0 (fun _ h9 => h9) rfl dX8_meet_55 ?_
                refine lv_iload_n hx hb dX8_meet_58 rfl (lv_at hl 1 rfl) ?_
                refine lv_iconst (v := 1) hx hb dX8_meet_59 (by decide) ?_
                refine lv_isub hx hb dX8_meet_60 ?_
                refine lv_iload_n hx hb dX8_meet_61 rfl (lv_at hl 2 rfl) ?_
                refine lv_iconst (v := 1) hx hb dX8_meet_62 (by decide) ?_
                refine lv_isub hx hb dX8_meet_63 ?_
                refine sm_vi (As := [.int (p1 - 1), .int (p2 - 1)]) (rest := []) hP hK hD hE hS hA ⟨hx, hb, hml, hown, hts⟩ hl.1 (c_X0_lowestAbove l D H.size t0 σ14 α (p1 - 1) (p2 - 1) _ hF) (cwV 2 hts wg_X8_meet_X0_lowestAbove_154 rfl rfl rfl (by decide +kernel) ⟨Nat.le_of_ble_eq_true rfl, Nat.le_of_ble_eq_true rfl⟩) (va_recv hK hP (ci := 0) (q0 := 0) rfl (sm_gX0 σ14 α)) rfl rfl (Nat.le_of_ble_eq_true rfl) dX8_meet_64 ⟨Nat.zero_le _, Nat.zero_le _⟩ (fun r18 σ17 H locs hF hP hS => ?_)
                refine lv_goto (tgt := 71) hx hb dX8_meet_67 (by decide) ?_
                exact B71 σ17 r18 hF H locs ls hP hS (lv_sub hl [] rfl)
          · replace hF := hF.2 h10
            refine lv_iload_n hx hb dX8_meet_38 rfl (lv_at hl 1 rfl) ?_
            exact W.iret (v := p1) hx hb hr (fun t ht hW => ⟨⟨p1, σ6, rfl, hF, (by unfold sm_B; rw [ht]; exact hP)⟩, hS.F ht⟩) hS.2.2 dX8_meet_39
        · replace hF := hF.2 h9
          refine lv_iload_n hx hb dX8_meet_30 rfl (lv_at hl 2 rfl) ?_
          exact W.iret (v := p2) hx hb hr (fun t ht hW => ⟨⟨p2, σ6, rfl, hF, (by unfold sm_B; rw [ht]; exact hP)⟩, hS.F ht⟩) hS.2.2 dX8_meet_31
      · replace hF := hF.2 h8
        exact B21 σ6 hF H locs ls hP hS (lv_sub hl [] rfl)
  · replace hF := hF.2 h2
    refine lv_iload_n hx hb dX8_meet_5 rfl (lv_at hl 1 rfl) ?_
    exact W.iret (v := p1) hx hb hr (fun t ht hW => ⟨⟨p1, σ, rfl, hF, (by unfold sm_B; rw [ht]; exact hP)⟩, hS.F ht⟩) hS.2.2 dX8_meet_6
theorem dX8_come_0 : decode cX8_come 0 = .ok (.aload_n 0, 1) := by decide +kernel
theorem dX8_come_1 : decode cX8_come 1 = .ok (.getfield 9, 3) := by decide +kernel
theorem dX8_come_4 : decode cX8_come 4 = .ok (.iload_n 1, 1) := by decide +kernel
theorem dX8_come_5 : decode cX8_come 5 = .ok (.baload, 1) := by decide +kernel
theorem dX8_come_6 : decode cX8_come 6 = .ok (.iconst (-1), 1) := by decide +kernel
theorem dX8_come_7 : decode cX8_come 7 = .ok (.if_icmp .ne 7, 3) := by decide +kernel
theorem dX8_come_10 : decode cX8_come 10 = .ok (.iconst 1, 1) := by decide +kernel
theorem dX8_come_11 : decode cX8_come 11 = .ok (.goto 4, 3) := by decide +kernel
theorem dX8_come_14 : decode cX8_come 14 = .ok (.iconst 0, 1) := by decide +kernel
theorem dX8_come_15 : decode cX8_come 15 = .ok (.istore_n 3, 1) := by decide +kernel
theorem dX8_come_16 : decode cX8_come 16 = .ok (.iload_n 3, 1) := by decide +kernel
theorem dX8_come_17 : decode cX8_come 17 = .ok (.istore 4, 2) := by decide +kernel
theorem dX8_come_19 : decode cX8_come 19 = .ok (.iload_n 3, 1) := by decide +kernel
theorem dX8_come_20 : decode cX8_come 20 = .ok (.ifCond .eq 14, 3) := by decide +kernel
theorem dX8_come_23 : decode cX8_come 23 = .ok (.aload_n 0, 1) := by decide +kernel
theorem dX8_come_24 : decode cX8_come 24 = .ok (.getfield 9, 3) := by decide +kernel
theorem dX8_come_27 : decode cX8_come 27 = .ok (.iload_n 1, 1) := by decide +kernel
theorem dX8_come_28 : decode cX8_come 28 = .ok (.iload_n 2, 1) := by decide +kernel
theorem dX8_come_29 : decode cX8_come 29 = .ok (.i2b, 1) := by decide +kernel
theorem dX8_come_30 : decode cX8_come 30 = .ok (.bastore, 1) := by decide +kernel
theorem dX8_come_31 : decode cX8_come 31 = .ok (.goto 19, 3) := by decide +kernel
theorem dX8_come_34 : decode cX8_come 34 = .ok (.aload_n 0, 1) := by decide +kernel
theorem dX8_come_35 : decode cX8_come 35 = .ok (.getfield 9, 3) := by decide +kernel
theorem dX8_come_38 : decode cX8_come 38 = .ok (.iload_n 1, 1) := by decide +kernel
theorem dX8_come_39 : decode cX8_come 39 = .ok (.baload, 1) := by decide +kernel
theorem dX8_come_40 : decode cX8_come 40 = .ok (.iload_n 2, 1) := by decide +kernel
theorem dX8_come_41 : decode cX8_come 41 = .ok (.if_icmp .eq 9, 3) := by decide +kernel
theorem dX8_come_44 : decode cX8_come 44 = .ok (.aload_n 0, 1) := by decide +kernel
theorem dX8_come_45 : decode cX8_come 45 = .ok (.iload_n 1, 1) := by decide +kernel
theorem dX8_come_46 : decode cX8_come 46 = .ok (.putfield 50, 3) := by decide +kernel
theorem dX8_come_49 : decode cX8_come 49 = .ok (.return_, 1) := by decide +kernel
theorem dX8_come_50 : decode cX8_come 50 = .ok (.iconst 0, 1) := by decide +kernel
theorem dX8_come_51 : decode cX8_come 51 = .ok (.istore 5, 2) := by decide +kernel
theorem dX8_come_53 : decode cX8_come 53 = .ok (.iload 5, 2) := by decide +kernel
theorem dX8_come_55 : decode cX8_come 55 = .ok (.aload_n 0, 1) := by decide +kernel
theorem dX8_come_56 : decode cX8_come 56 = .ok (.getfield 75, 3) := by decide +kernel
theorem dX8_come_59 : decode cX8_come 59 = .ok (.iload_n 2, 1) := by decide +kernel
theorem dX8_come_60 : decode cX8_come 60 = .ok (.iadd, 1) := by decide +kernel
theorem dX8_come_61 : decode cX8_come 61 = .ok (.if_icmp .ge 108, 3) := by decide +kernel
theorem dX8_come_64 : decode cX8_come 64 = .ok (.aload_n 0, 1) := by decide +kernel
theorem dX8_come_65 : decode cX8_come 65 = .ok (.getfield 15, 3) := by decide +kernel
theorem dX8_come_68 : decode cX8_come 68 = .ok (.iload_n 1, 1) := by decide +kernel
theorem dX8_come_69 : decode cX8_come 69 = .ok (.bipush 12, 2) := by decide +kernel
theorem dX8_come_71 : decode cX8_come 71 = .ok (.imul, 1) := by decide +kernel
theorem dX8_come_72 : decode cX8_come 72 = .ok (.iload 5, 2) := by decide +kernel
theorem dX8_come_74 : decode cX8_come 74 = .ok (.iadd, 1) := by decide +kernel
theorem dX8_come_75 : decode cX8_come 75 = .ok (.baload, 1) := by decide +kernel
theorem dX8_come_76 : decode cX8_come 76 = .ok (.istore 6, 2) := by decide +kernel
theorem dX8_come_78 : decode cX8_come 78 = .ok (.iload_n 3, 1) := by decide +kernel
theorem dX8_come_79 : decode cX8_come 79 = .ok (.ifCond .eq 13, 3) := by decide +kernel
theorem dX8_come_82 : decode cX8_come 82 = .ok (.aload_n 0, 1) := by decide +kernel
theorem dX8_come_83 : decode cX8_come 83 = .ok (.getfield 22, 3) := by decide +kernel
theorem dX8_come_86 : decode cX8_come 86 = .ok (.iload 5, 2) := by decide +kernel
theorem dX8_come_88 : decode cX8_come 88 = .ok (.iaload, 1) := by decide +kernel
theorem dX8_come_89 : decode cX8_come 89 = .ok (.goto 16, 3) := by decide +kernel
theorem dX8_come_92 : decode cX8_come 92 = .ok (.aload_n 0, 1) := by decide +kernel
theorem dX8_come_93 : decode cX8_come 93 = .ok (.iload 6, 2) := by decide +kernel
theorem dX8_come_95 : decode cX8_come 95 = .ok (.aload_n 0, 1) := by decide +kernel
theorem dX8_come_96 : decode cX8_come 96 = .ok (.getfield 22, 3) := by decide +kernel
theorem dX8_come_99 : decode cX8_come 99 = .ok (.iload 5, 2) := by decide +kernel
theorem dX8_come_101 : decode cX8_come 101 = .ok (.iaload, 1) := by decide +kernel
theorem dX8_come_102 : decode cX8_come 102 = .ok (.invokevirtual 139, 3) := by decide +kernel
theorem dX8_come_105 : decode cX8_come 105 = .ok (.istore 7, 2) := by decide +kernel
theorem dX8_come_107 : decode cX8_come 107 = .ok (.iload 5, 2) := by decide +kernel
theorem dX8_come_109 : decode cX8_come 109 = .ok (.aload_n 0, 1) := by decide +kernel
theorem dX8_come_110 : decode cX8_come 110 = .ok (.getfield 75, 3) := by decide +kernel
theorem dX8_come_113 : decode cX8_come 113 = .ok (.if_icmp .lt 16, 3) := by decide +kernel
theorem dX8_come_116 : decode cX8_come 116 = .ok (.iload 7, 2) := by decide +kernel
theorem dX8_come_118 : decode cX8_come 118 = .ok (.bipush 99, 2) := by decide +kernel
theorem dX8_come_120 : decode cX8_come 120 = .ok (.if_icmp .ne 9, 3) := by decide +kernel
theorem dX8_come_123 : decode cX8_come 123 = .ok (.aload_n 0, 1) := by decide +kernel
theorem dX8_come_124 : decode cX8_come 124 = .ok (.iload_n 1, 1) := by decide +kernel
theorem dX8_come_125 : decode cX8_come 125 = .ok (.putfield 50, 3) := by decide +kernel
theorem dX8_come_128 : decode cX8_come 128 = .ok (.return_, 1) := by decide +kernel
theorem dX8_come_129 : decode cX8_come 129 = .ok (.iload 4, 2) := by decide +kernel
theorem dX8_come_131 : decode cX8_come 131 = .ok (.ifCond .ne 10, 3) := by decide +kernel
theorem dX8_come_134 : decode cX8_come 134 = .ok (.iload 7, 2) := by decide +kernel
theorem dX8_come_136 : decode cX8_come 136 = .ok (.iload 6, 2) := by decide +kernel
theorem dX8_come_138 : decode cX8_come 138 = .ok (.if_icmp .eq 7, 3) := by decide +kernel
theorem dX8_come_141 : decode cX8_come 141 = .ok (.iconst 1, 1) := by decide +kernel
theorem dX8_come_142 : decode cX8_come 142 = .ok (.goto 4, 3) := by decide +kernel
theorem dX8_come_145 : decode cX8_come 145 = .ok (.iconst 0, 1) := by decide +kernel
theorem dX8_come_146 : decode cX8_come 146 = .ok (.istore 4, 2) := by decide +kernel
theorem dX8_come_148 : decode cX8_come 148 = .ok (.aload_n 0, 1) := by decide +kernel
theorem dX8_come_149 : decode cX8_come 149 = .ok (.getfield 15, 3) := by decide +kernel
theorem dX8_come_152 : decode cX8_come 152 = .ok (.iload_n 1, 1) := by decide +kernel
theorem dX8_come_153 : decode cX8_come 153 = .ok (.bipush 12, 2) := by decide +kernel
theorem dX8_come_155 : decode cX8_come 155 = .ok (.imul, 1) := by decide +kernel
theorem dX8_come_156 : decode cX8_come 156 = .ok (.iload 5, 2) := by decide +kernel
theorem dX8_come_158 : decode cX8_come 158 = .ok (.iadd, 1) := by decide +kernel
theorem dX8_come_159 : decode cX8_come 159 = .ok (.iload 7, 2) := by decide +kernel
theorem dX8_come_161 : decode cX8_come 161 = .ok (.i2b, 1) := by decide +kernel
theorem dX8_come_162 : decode cX8_come 162 = .ok (.bastore, 1) := by decide +kernel
theorem dX8_come_163 : decode cX8_come 163 = .ok (.iinc 5 1, 3) := by decide +kernel
theorem dX8_come_166 : decode cX8_come 166 = .ok (.goto (-113), 3) := by decide +kernel
theorem dX8_come_169 : decode cX8_come 169 = .ok (.iload 4, 2) := by decide +kernel
theorem dX8_come_171 : decode cX8_come 171 = .ok (.ifCond .eq 22, 3) := by decide +kernel
theorem dX8_come_174 : decode cX8_come 174 = .ok (.aload_n 0, 1) := by decide +kernel
theorem dX8_come_175 : decode cX8_come 175 = .ok (.getfield 18, 3) := by decide +kernel
theorem dX8_come_178 : decode cX8_come 178 = .ok (.iload_n 1, 1) := by decide +kernel
theorem dX8_come_179 : decode cX8_come 179 = .ok (.iconst 1, 1) := by decide +kernel
theorem dX8_come_180 : decode cX8_come 180 = .ok (.bastore, 1) := by decide +kernel
theorem dX8_come_181 : decode cX8_come 181 = .ok (.aload_n 0, 1) := by decide +kernel
theorem dX8_come_182 : decode cX8_come 182 = .ok (.aload_n 0, 1) := by decide +kernel
theorem dX8_come_183 : decode cX8_come 183 = .ok (.getfield 83, 3) := by decide +kernel
theorem dX8_come_186 : decode cX8_come 186 = .ok (.iload_n 1, 1) := by decide +kernel
theorem dX8_come_187 : decode cX8_come 187 = .ok (.invokestatic 142, 3) := by decide +kernel
theorem dX8_come_190 : decode cX8_come 190 = .ok (.putfield 83, 3) := by decide +kernel
theorem dX8_come_193 : decode cX8_come 193 = .ok (.return_, 1) := by decide +kernel
def wp_X8_come : List Cond := .code yX8_come cX8_come 8 none :: (([.fieldLink RX8 15 "SteadyMachine$Verifier" "types" "[B", .fieldLink RX8 75 "SteadyMachine$Verifier" "locals" "I", .fieldLink RX8 50 "SteadyMachine$Verifier" "bad" "I", .fieldLink RX8 18 "SteadyMachine$Verifier" "marked" "[Z", .fieldLink RX8 83 "SteadyMachine$Verifier" "lowestMark" "I", .methodLink RX8 142 Lib.Math.min.name, .static Lib.Math.min.name, .initialized "java/lang/Math", .code Lib.Math.min.name Lib.Math.min.code 2 (some .int), .fieldLink RX8 22 "SteadyMachine$Verifier" "now" "[I", .fieldLink RX8 9 "SteadyMachine$Verifier" "heights" "[B"] ++ (wsV RX8 139 RX8 yX8_meet wp_X8_meet)) ++ wsX80)
theorem wq_X8_come : wp_X8_come.all goodWord = true := wa_c rfl (wa_a (wa_a (by decide +kernel) (wa_V wq_X8_meet)) uq_X8)
theorem wt_X8_come : GoodIn lw_tbl wp_X8_come := wm_c (List.mem_of_getElem? (i := 753) (by decide +kernel)) rfl (wm_a (wm_a (goodIn_r _ [379, 384, 387, 380, 385, 768, 626, 149, 627, 381, 378] (by decide +kernel) (by decide +kernel)) (wm_a (goodIn_r _ [754, 756, 17, 142] (by decide +kernel) (by decide +kernel)) wt_X8_meet)) ut_X8)
theorem wg_X8_come_X8_meet_139 : GoodIn wp_X8_come (wsV RX8 139 RX8 yX8_meet wp_X8_meet) := goodIn_sub (fun w h => List.mem_cons_of_mem _ (List.mem_append_left _ (List.mem_append_right _ h))) (wa_V wq_X8_meet)
theorem wi_X8_come_X8 : ∀ w ∈ wsX80, w ∈ wp_X8_come := fun w h => List.mem_cons_of_mem _ (List.mem_append_right _ h)
set_option maxHeartbeats 4000000 in
set_option maxRecDepth 100000 in
theorem c_X8_come (l : Launch) (D : va_G) (sz t0 : Nat) (σ : sm_S) (α : sm_A) (p1 : Int32) (p2 : Int32) (K : sm_S → Prop) (hF : mp_X8_come σ p1 p2 K) : Met l yX8_come wp_X8_come { frames := 2, cells := 0, slots := 0, locals := 48 } (sm_P sm_wX sm_tX 37 D sz t0 σ α [.ref (α.1 8), .int p1, .int p2]) (va_Qv K (sm_B sm_wX D α) (sm_a α 37 sz)) 0 0 (sm_a α 37 sz) := by
  refine Met.ofW (cc := cX8_come) (maxL := 8) (ret := none) (by decide) rfl ?_
  intro p e s m args below meth c s₁ B hml hv
  obtain ⟨rfl, hsz, hP, hK, hD0, hE⟩ := hv
  have hx := B.exec
  have hb := B.bytes
  have hr := B.returns
  have hts := atoms_spec (ws := wp_X8_come) B.pre
  have hown : s.vm.findClass RX8 = some m.cls := findClass_of_methodNamed B.named
  have hlocks := B.notSynchronized
  subst hsz
  have hD : sm_D (sm_a α 37 s.heap.size) α 37 := hD0.own
  have hA : ∀ q : Nat, s.heap.size ≤ q → sm_a α 37 s.heap.size q := fun q h => Or.inr h
  generalize hAe : sm_a α 37 s.heap.size = A at hD hA hE ⊢
  have hS : va_S A s.heap s.heap [] := va_S.rf
  have in_X8 : ∀ w ∈ wsX80, w ∈ wp_X8_come := wi_X8_come_X8
  have k_0 := hts (.fieldLink RX8 15 "SteadyMachine$Verifier" "types" "[B") (by decide +kernel)
  have k_1 := hts (.fieldLink RX8 75 "SteadyMachine$Verifier" "locals" "I") (by decide +kernel)
  have k_2 := hts (.fieldLink RX8 50 "SteadyMachine$Verifier" "bad" "I") (by decide +kernel)
  have k_3 := hts (.fieldLink RX8 18 "SteadyMachine$Verifier" "marked" "[Z") (by decide +kernel)
  have k_4 := hts (.fieldLink RX8 83 "SteadyMachine$Verifier" "lowestMark" "I") (by decide +kernel)
  have k_5 := hts (.methodLink RX8 142 Lib.Math.min.name) (by decide +kernel)
  have k_6 := hts (.static Lib.Math.min.name) (by decide +kernel)
  have k_7 := hts (.initialized "java/lang/Math") (by decide +kernel)
  have k_8 := hts (.code Lib.Math.min.name Lib.Math.min.code 2 (some .int)) (by decide +kernel)
  have k_9 := hts (.fieldLink RX8 22 "SteadyMachine$Verifier" "now" "[I") (by decide +kernel)
  have k_10 := hts (.fieldLink RX8 9 "SteadyMachine$Verifier" "heights" "[B") (by decide +kernel)
  have hl := lv_entry ([.ref (α.1 8), .int p1, .int p2]) (n := 8) (Nat.le_of_ble_eq_true rfl)
  rw [lg_entry_eq]
  generalize (lg_sl ([.ref (α.1 8), .int p1, .int p2]) ++ List.replicate (8 - (lg_sl ([.ref (α.1 8), .int p1, .int p2])).length) Slot.unset).toArray = ls at hl ⊢
  have hl : lv_has ls 8 [(0, .ref (α.1 8)), (1, .int p1), (2, .int p2)] := hl
  have B193 : ∀ (σ : sm_S), mp_X8_come_193 K σ → sm_J p l e (headSpec wp_X8_come { frames := 2, cells := 0, slots := 0, locals := 48 }).room s m ([.ref (α.1 8), .int p1, .int p2] : List Value).toArray below meth c (MQ below (va_Qv K (sm_B sm_wX D α) A) ([.ref (α.1 8), .int p1, .int p2] : List Value).toArray s 0 0 A) D A 8 (sm_wX σ α) 193 [] [] := by
    intro σ hF H locs ls hP hS hl
    unfold mp_X8_come_193 at hF
    exact W.vret hx hb hr (fun t ht hW => ⟨⟨σ, rfl, hF, (by unfold sm_B; rw [ht]; exact hP)⟩, hS.F ht⟩) hS.2.2 dX8_come_193
  have B146 : ∀ (L53 : sm_S → Int32 → Int32 → Int32 → Int32 → Int32 → Prop) (hL53 : ∀ (σ : sm_S) (x1 : Int32) (x2 : Int32) (x3 : Int32) (x4 : Int32) (x5 : Int32), L53 σ x1 x2 x3 x4 x5 → sm_J p l e (headSpec wp_X8_come { frames := 2, cells := 0, slots := 0, locals := 48 }).room s m ([.ref (α.1 8), .int p1, .int p2] : List Value).toArray below meth c (MQ below (va_Qv K (sm_B sm_wX D α) A) ([.ref (α.1 8), .int p1, .int p2] : List Value).toArray s 0 0 A) D A 8 (sm_wX σ α) 53 [(0, .ref (α.1 8)), (1, .int x1), (2, .int x2), (3, .int x3), (4, .int x4), (5, .int x5)] []) (σ : sm_S) (x1 : Int32) (x2 : Int32) (x3 : Int32) (x5 : Int32) (x7 : Int32) (y0 : Int32), mp_X8_come_146 L53 K σ x1 x2 x3 x5 x7 y0 → sm_J p l e (headSpec wp_X8_come { frames := 2, cells := 0, slots := 0, locals := 48 }).room s m ([.ref (α.1 8), .int p1, .int p2] : List Value).toArray below meth c (MQ below (va_Qv K (sm_B sm_wX D α) A) ([.ref (α.1 8), .int p1, .int p2] : List Value).toArray s 0 0 A) D A 8 (sm_wX σ α) 146 [(0, .ref (α.1 8)), (1, .int x1), (2, .int x2), (3, .int x3), (5, .int x5), (7, .int x7)] [.int y0] := by
    intro L53 hL53 σ x1 x2 x3 x5 x7 y0 hF H locs ls hP hS hl
    unfold mp_X8_come_146 at hF
    refine lv_istore (lv' := [(4, .int y0), (0, .ref (α.1 8)), (1, .int x1), (2, .int x2), (3, .int x3), (5, .int x5), (7, .int x7)]) hx hb dX8_come_146 hl (by decide) rfl (fun ls hl => ?_)
    refine lv_aload_n hx hb dX8_come_148 rfl (lv_at hl 1 rfl) ?_
    refine va_get (D := D) (ci := 8) (v := .ref (α.1 33)) (C := RX8) (T := TX8) (N := 13) hx hb hts in_X8 hown hK hP 8 (sm_gX8 σ α) rfl 4 (by decide) k_0 (fun _ h9 => h9) rfl dX8_come_149 ?_
    refine lv_iload_n hx hb dX8_come_152 rfl (lv_at hl 2 rfl) ?_
    refine lv_bipush (v := 12) hx hb dX8_come_153 (by decide) ?_
    refine lv_imul hx hb dX8_come_155 ?_
    refine lv_iload hx hb dX8_come_156 (lv_at hl 5 rfl) ?_
    refine lv_iadd hx hb dX8_come_158 ?_
    refine lv_iload hx hb dX8_come_159 (lv_at hl 6 rfl) ?_
    refine lv_i2b hx hb dX8_come_161 rfl ?_
    obtain ⟨h1, hF⟩ := hF
    refine va_bast (n := (σ.2.2.1 33)) (f := (σ.2.2.2.1 33)) (x := x7.toInt8.toInt32) hx hb hK hP (hD.to (sm_wX_m _ _)) hS 33 22 (sm_aX33 σ α) (sm_yX33 α) h1 dX8_come_162 (fun H locs hP _ hS => ?_)
    rw [sm_rX33] at hP
    obtain ⟨σ2, eσ2⟩ : ∃ x : sm_S, x = sm_r σ 33 (upd (σ.2.2.2.1 33) ((x1 * 12) + x5).toNatClampNeg (vp_nar .byte x7.toInt8.toInt32)) := ⟨_, rfl⟩
    replace hF := hF σ2 eσ2
    rw [← eσ2] at hP
    obtain ⟨v3, ev3⟩ : ∃ y : Int32, y = x5 + 1 := ⟨_, rfl⟩
    replace hF := hF v3 ev3
    refine lv_iinc (v := v3) (lv' := [(5, .int v3), (4, .int y0), (0, .ref (α.1 8)), (1, .int x1), (2, .int x2), (3, .int x3), (7, .int x7)]) hx hb dX8_come_163 hl (k := 5) rfl (by rw [ev3]; rfl) (by decide) rfl (fun ls hl => ?_)
    refine lv_goto (tgt := 53) hx hb dX8_come_166 (by decide) ?_
    exact hL53 σ2 x1 x2 x3 y0 v3 hF H locs ls hP hS (lv_sub hl [2, 3, 4, 5, 1, 0] rfl)
  have B141 : ∀ (L53 : sm_S → Int32 → Int32 → Int32 → Int32 → Int32 → Prop) (hL53 : ∀ (σ : sm_S) (x1 : Int32) (x2 : Int32) (x3 : Int32) (x4 : Int32) (x5 : Int32), L53 σ x1 x2 x3 x4 x5 → sm_J p l e (headSpec wp_X8_come { frames := 2, cells := 0, slots := 0, locals := 48 }).room s m ([.ref (α.1 8), .int p1, .int p2] : List Value).toArray below meth c (MQ below (va_Qv K (sm_B sm_wX D α) A) ([.ref (α.1 8), .int p1, .int p2] : List Value).toArray s 0 0 A) D A 8 (sm_wX σ α) 53 [(0, .ref (α.1 8)), (1, .int x1), (2, .int x2), (3, .int x3), (4, .int x4), (5, .int x5)] []) (σ : sm_S) (x1 : Int32) (x2 : Int32) (x3 : Int32) (x5 : Int32) (x7 : Int32), mp_X8_come_141 L53 K σ x1 x2 x3 x5 x7 → sm_J p l e (headSpec wp_X8_come { frames := 2, cells := 0, slots := 0, locals := 48 }).room s m ([.ref (α.1 8), .int p1, .int p2] : List Value).toArray below meth c (MQ below (va_Qv K (sm_B sm_wX D α) A) ([.ref (α.1 8), .int p1, .int p2] : List Value).toArray s 0 0 A) D A 8 (sm_wX σ α) 141 [(0, .ref (α.1 8)), (1, .int x1), (2, .int x2), (3, .int x3), (5, .int x5), (7, .int x7)] [] := by
    intro L53 hL53 σ x1 x2 x3 x5 x7 hF H locs ls hP hS hl
    unfold mp_X8_come_141 at hF
    refine lv_iconst (v := 1) hx hb dX8_come_141 (by decide) ?_
    refine lv_goto (tgt := 146) hx hb dX8_come_142 (by decide) ?_
    exact B146 L53 hL53 σ x1 x2 x3 x5 x7 1 hF H locs ls hP hS (lv_sub hl [0, 1, 2, 3, 4, 5] rfl)
  have B129 : ∀ (L53 : sm_S → Int32 → Int32 → Int32 → Int32 → Int32 → Prop) (hL53 : ∀ (σ : sm_S) (x1 : Int32) (x2 : Int32) (x3 : Int32) (x4 : Int32) (x5 : Int32), L53 σ x1 x2 x3 x4 x5 → sm_J p l e (headSpec wp_X8_come { frames := 2, cells := 0, slots := 0, locals := 48 }).room s m ([.ref (α.1 8), .int p1, .int p2] : List Value).toArray below meth c (MQ below (va_Qv K (sm_B sm_wX D α) A) ([.ref (α.1 8), .int p1, .int p2] : List Value).toArray s 0 0 A) D A 8 (sm_wX σ α) 53 [(0, .ref (α.1 8)), (1, .int x1), (2, .int x2), (3, .int x3), (4, .int x4), (5, .int x5)] []) (σ : sm_S) (x1 : Int32) (x2 : Int32) (x3 : Int32) (x4 : Int32) (x5 : Int32) (x6 : Int32) (x7 : Int32), mp_X8_come_129 L53 K σ x1 x2 x3 x4 x5 x6 x7 → sm_J p l e (headSpec wp_X8_come { frames := 2, cells := 0, slots := 0, locals := 48 }).room s m ([.ref (α.1 8), .int p1, .int p2] : List Value).toArray below meth c (MQ below (va_Qv K (sm_B sm_wX D α) A) ([.ref (α.1 8), .int p1, .int p2] : List Value).toArray s 0 0 A) D A 8 (sm_wX σ α) 129 [(0, .ref (α.1 8)), (1, .int x1), (2, .int x2), (3, .int x3), (4, .int x4), (5, .int x5), (6, .int x6), (7, .int x7)] [] := by
    intro L53 hL53 σ x1 x2 x3 x4 x5 x6 x7 hF H locs ls hP hS hl
    unfold mp_X8_come_129 at hF
    refine lv_iload hx hb dX8_come_129 (lv_at hl 4 rfl) ?_
    refine lv_if_ne (tgt := 141) hx hb dX8_come_131 (by decide) (fun h4 => ?_) (fun h4 => ?_)
    · replace hF := hF.1 h4
      exact B141 L53 hL53 σ x1 x2 x3 x5 x7 hF H locs ls hP hS (lv_sub hl [0, 1, 2, 3, 5, 7] rfl)
    · replace hF := hF.2 h4
      refine lv_iload hx hb dX8_come_134 (lv_at hl 7 rfl) ?_
      refine lv_iload hx hb dX8_come_136 (lv_at hl 6 rfl) ?_
      refine lv_icmp_eq (tgt := 145) hx hb dX8_come_138 (by decide) (fun h5 => ?_) (fun h5 => ?_)
      · replace hF := hF.1 h5
        refine lv_iconst (v := 0) hx hb dX8_come_145 (by decide) ?_
        exact B146 L53 hL53 σ x1 x2 x3 x5 x7 0 hF H locs ls hP hS (lv_sub hl [0, 1, 2, 3, 5, 7] rfl)
      · replace hF := hF.2 h5
        exact B141 L53 hL53 σ x1 x2 x3 x5 x7 hF H locs ls hP hS (lv_sub hl [0, 1, 2, 3, 5, 7] rfl)
  have B105 : ∀ (L53 : sm_S → Int32 → Int32 → Int32 → Int32 → Int32 → Prop) (hL53 : ∀ (σ : sm_S) (x1 : Int32) (x2 : Int32) (x3 : Int32) (x4 : Int32) (x5 : Int32), L53 σ x1 x2 x3 x4 x5 → sm_J p l e (headSpec wp_X8_come { frames := 2, cells := 0, slots := 0, locals := 48 }).room s m ([.ref (α.1 8), .int p1, .int p2] : List Value).toArray below meth c (MQ below (va_Qv K (sm_B sm_wX D α) A) ([.ref (α.1 8), .int p1, .int p2] : List Value).toArray s 0 0 A) D A 8 (sm_wX σ α) 53 [(0, .ref (α.1 8)), (1, .int x1), (2, .int x2), (3, .int x3), (4, .int x4), (5, .int x5)] []) (σ : sm_S) (x1 : Int32) (x2 : Int32) (x3 : Int32) (x4 : Int32) (x5 : Int32) (x6 : Int32) (y0 : Int32), mp_X8_come_105 L53 K σ x1 x2 x3 x4 x5 x6 y0 → sm_J p l e (headSpec wp_X8_come { frames := 2, cells := 0, slots := 0, locals := 48 }).room s m ([.ref (α.1 8), .int p1, .int p2] : List Value).toArray below meth c (MQ below (va_Qv K (sm_B sm_wX D α) A) ([.ref (α.1 8), .int p1, .int p2] : List Value).toArray s 0 0 A) D A 8 (sm_wX σ α) 105 [(0, .ref (α.1 8)), (1, .int x1), (2, .int x2), (3, .int x3), (4, .int x4), (5, .int x5), (6, .int x6)] [.int y0] := by
    intro L53 hL53 σ x1 x2 x3 x4 x5 x6 y0 hF H locs ls hP hS hl
    unfold mp_X8_come_105 at hF
    refine lv_istore (lv' := [(7, .int y0), (0, .ref (α.1 8)), (1, .int x1), (2, .int x2), (3, .int x3), (4, .int x4), (5, .int x5), (6, .int x6)]) hx hb dX8_come_105 hl (by decide) rfl (fun ls hl => ?_)
    refine lv_iload hx hb dX8_come_107 (lv_at hl 6 rfl) ?_
    refine lv_aload_n hx hb dX8_come_109 rfl (lv_at hl 1 rfl) ?_
    refine va_get (D := D) (ci := 8) (v := .int (σ.1 31)) (C := RX8) (T := TX8) (N := 13) hx hb hts in_X8 hown hK hP 8 (sm_gX8 σ α) rfl 9 (by decide) k_1 (fun _ h9 => h9) rfl dX8_come_110 ?_
    refine lv_icmp_lt (tgt := 129) hx hb dX8_come_113 (by decide) (fun h6 => ?_) (fun h6 => ?_)
    · replace hF := hF.1 h6
      exact B129 L53 hL53 σ x1 x2 x3 x4 x5 x6 y0 hF H locs ls hP hS (lv_sub hl [1, 2, 3, 4, 5, 6, 7, 0] rfl)
    · replace hF := hF.2 h6
      refine lv_iload hx hb dX8_come_116 (lv_at hl 0 rfl) ?_
      refine lv_bipush (v := 99) hx hb dX8_come_118 (by decide) ?_
      refine lv_icmp_ne (tgt := 129) hx hb dX8_come_120 (by decide) (fun h7 => ?_) (fun h7 => ?_)
      · replace hF := hF.1 h7
        exact B129 L53 hL53 σ x1 x2 x3 x4 x5 x6 y0 hF H locs ls hP hS (lv_sub hl [1, 2, 3, 4, 5, 6, 7, 0] rfl)
      · replace hF := hF.2 h7
        refine lv_aload_n hx hb dX8_come_123 rfl (lv_at hl 1 rfl) ?_
        refine lv_iload_n hx hb dX8_come_124 rfl (lv_at hl 2 rfl) ?_
        refine va_put (D := D) (ci := 8) (v := .int x1) (ty := .int) (C := RX8) (T := TX8) (N := 13) hx hb hts in_X8 tyX8 tyX8_ok nmX8 hown hK hP (hD.to (sm_wX_m _ _)) hS 8 (sm_gX8 σ α) rfl 12 (by decide) k_2 (fun _ h9 => h9) rfl (by decide +kernel) rfl rfl (Nat.le_of_ble_eq_true rfl) dX8_come_125 (fun H locs hP _ hS => ?_)
        rw [sm_iX34] at hP
        obtain ⟨σ8, eσ8⟩ : ∃ x : sm_S, x = sm_i σ 34 x1 := ⟨_, rfl⟩
        replace hF := hF σ8 eσ8
        rw [← eσ8] at hP
        exact W.vret hx hb hr (fun t ht hW => ⟨⟨σ8, rfl, hF, (by unfold sm_B; rw [ht]; exact hP)⟩, hS.F ht⟩) hS.2.2 dX8_come_128
  have B53 : ∀ (n : Nat) (σ : sm_S) (x1 : Int32) (x2 : Int32) (x3 : Int32) (x4 : Int32) (x5 : Int32), mp_X8_come_53 K n σ x1 x2 x3 x4 x5 → sm_J p l e (headSpec wp_X8_come { frames := 2, cells := 0, slots := 0, locals := 48 }).room s m ([.ref (α.1 8), .int p1, .int p2] : List Value).toArray below meth c (MQ below (va_Qv K (sm_B sm_wX D α) A) ([.ref (α.1 8), .int p1, .int p2] : List Value).toArray s 0 0 A) D A 8 (sm_wX σ α) 53 [(0, .ref (α.1 8)), (1, .int x1), (2, .int x2), (3, .int x3), (4, .int x4), (5, .int x5)] [] := by
    intro n53
    induction n53 with
    | zero =>
      intro σ x1 x2 x3 x4 x5 hF
      exact hF.elim
    | succ n53 ih53 =>
      intro σ x1 x2 x3 x4 x5 hF H locs ls hP hS hl
      unfold mp_X8_come_53 at hF
      refine lv_iload hx hb dX8_come_53 (lv_at hl 5 rfl) ?_
      refine lv_aload_n hx hb dX8_come_55 rfl (lv_at hl 0 rfl) ?_
      refine va_get (D := D) (ci := 8) (v := .int (σ.1 31)) (C := RX8) (T := TX8) (N := 13) hx hb hts in_X8 hown hK hP 8 (sm_gX8 σ α) rfl 9 (by decide) k_1 (fun _ h9 => h9) rfl dX8_come_56 ?_
      refine lv_iload_n hx hb dX8_come_59 rfl (lv_at hl 2 rfl) ?_
      refine lv_iadd hx hb dX8_come_60 ?_
      refine lv_icmp_ge (tgt := 169) hx hb dX8_come_61 (by decide) (fun h9 => ?_) (fun h9 => ?_)
      · replace hF := hF.1 h9
        refine lv_iload hx hb dX8_come_169 (lv_at hl 4 rfl) ?_
        refine lv_if_eq (tgt := 193) hx hb dX8_come_171 (by decide) (fun h10 => ?_) (fun h10 => ?_)
        · replace hF := hF.1 h10
          exact B193 σ hF H locs ls hP hS (lv_sub hl [] rfl)
        · replace hF := hF.2 h10
          refine lv_aload_n hx hb dX8_come_174 rfl (lv_at hl 0 rfl) ?_
          refine va_get (D := D) (ci := 8) (v := .ref (α.1 34)) (C := RX8) (T := TX8) (N := 13) hx hb hts in_X8 hown hK hP 8 (sm_gX8 σ α) rfl 5 (by decide) k_3 (fun _ h9 => h9) rfl dX8_come_175 ?_
          refine lv_iload_n hx hb dX8_come_178 rfl (lv_at hl 1 rfl) ?_
          refine lv_iconst (v := 1) hx hb dX8_come_179 (by decide) ?_
          obtain ⟨h11, hF⟩ := hF
          refine va_zast (n := (σ.2.2.1 34)) (f := (σ.2.2.2.1 34)) (x := 1) hx hb hK hP (hD.to (sm_wX_m _ _)) hS 34 23 (sm_aX34 σ α) (sm_yX34 α) h11 dX8_come_180 (fun H locs hP _ hS => ?_)
          rw [sm_rX34] at hP
          obtain ⟨σ12, eσ12⟩ : ∃ x : sm_S, x = sm_r σ 34 (upd (σ.2.2.2.1 34) x1.toNatClampNeg (vp_nar .boolean 1)) := ⟨_, rfl⟩
          replace hF := hF σ12 eσ12
          rw [← eσ12] at hP
          refine lv_aload_n hx hb dX8_come_181 rfl (lv_at hl 0 rfl) ?_
          refine lv_aload_n hx hb dX8_come_182 rfl (lv_at hl 0 rfl) ?_
          refine va_get (D := D) (ci := 8) (v := .int (σ12.1 32)) (C := RX8) (T := TX8) (N := 13) hx hb hts in_X8 hown hK hP 8 (sm_gX8 σ12 α) rfl 10 (by decide) k_4 (fun _ h9 => h9) rfl dX8_come_183 ?_
          refine lv_iload_n hx hb dX8_come_186 rfl (lv_at hl 1 rfl) ?_
          refine va_mmin (x := (σ12.1 32)) (y := x1) hx hb (hml.trans hl.1.symm) hown k_5 k_6 k_7 k_8 (Nat.le_of_ble_eq_true rfl) (Nat.le_of_ble_eq_true rfl) (Nat.zero_le _) (Nat.zero_le _) dX8_come_187 ?_
          refine va_put (D := D) (ci := 8) (v := .int (if x1 < (σ12.1 32) then x1 else (σ12.1 32))) (ty := .int) (C := RX8) (T := TX8) (N := 13) hx hb hts in_X8 tyX8 tyX8_ok nmX8 hown hK hP (hD.to (sm_wX_m _ _)) hS 8 (sm_gX8 σ12 α) rfl 10 (by decide) k_4 (fun _ h9 => h9) rfl (by decide +kernel) rfl rfl (Nat.le_of_ble_eq_true rfl) dX8_come_190 (fun H locs hP _ hS => ?_)
          rw [sm_iX32] at hP
          obtain ⟨σ13, eσ13⟩ : ∃ x : sm_S, x = sm_i σ12 32 (if x1 < (σ12.1 32) then x1 else (σ12.1 32)) := ⟨_, rfl⟩
          replace hF := hF σ13 eσ13
          rw [← eσ13] at hP
          exact B193 σ13 hF H locs ls hP hS (lv_sub hl [] rfl)
      · replace hF := hF.2 h9
        refine lv_aload_n hx hb dX8_come_64 rfl (lv_at hl 0 rfl) ?_
        refine va_get (D := D) (ci := 8) (v := .ref (α.1 33)) (C := RX8) (T := TX8) (N := 13) hx hb hts in_X8 hown hK hP 8 (sm_gX8 σ α) rfl 4 (by decide) k_0 (fun _ h9 => h9) rfl dX8_come_65 ?_
        refine lv_iload_n hx hb dX8_come_68 rfl (lv_at hl 1 rfl) ?_
        refine lv_bipush (v := 12) hx hb dX8_come_69 (by decide) ?_
        refine lv_imul hx hb dX8_come_71 ?_
        refine lv_iload hx hb dX8_come_72 (lv_at hl 5 rfl) ?_
        refine lv_iadd hx hb dX8_come_74 ?_
        obtain ⟨h14, hF⟩ := hF
        refine va_bald (n := (σ.2.2.1 33)) (f := (σ.2.2.2.1 33)) hx hb hK hP 33 22 (sm_aX33 σ α) (sm_yX33 α) h14 dX8_come_75 ?_
        refine lv_topi (fun v15 ev15 => ?_)
        replace hF := hF v15 ev15
        refine lv_istore (lv' := [(6, .int v15), (0, .ref (α.1 8)), (1, .int x1), (2, .int x2), (3, .int x3), (4, .int x4), (5, .int x5)]) hx hb dX8_come_76 hl (by decide) rfl (fun ls hl => ?_)
        refine lv_iload_n hx hb dX8_come_78 rfl (lv_at hl 4 rfl) ?_
        refine lv_if_eq (tgt := 92) hx hb dX8_come_79 (by decide) (fun h16 => ?_) (fun h16 => ?_)
        · replace hF := hF.1 h16
          refine lv_aload_n hx hb dX8_come_92 rfl (lv_at hl 1 rfl) ?_
          refine lv_iload hx hb dX8_come_93 (lv_at hl 0 rfl) ?_
          refine lv_aload_n hx hb dX8_come_95 rfl (lv_at hl 1 rfl) ?_
          refine va_get (D := D) (ci := 8) (v := .ref (α.1 35)) (C := RX8) (T := TX8) (N := 13) hx hb hts in_X8 hown hK hP 8 (sm_gX8 σ α) rfl 6 (by decide) k_9 (fun _ h9 => h9) rfl dX8_come_96 ?_
          refine lv_iload hx hb dX8_come_99 (lv_at hl 6 rfl) ?_
          obtain ⟨h17, hF⟩ := hF
          refine va_iald (n := (σ.2.2.1 35)) (f := (σ.2.2.2.1 35)) hx hb hK hP 35 24 (sm_aX35 σ α) (sm_yX35 α) h17 dX8_come_101 ?_
          refine sm_vi (As := [.int v15, .int ((σ.2.2.2.1 35) x5.toNatClampNeg)]) (rest := []) hP hK hD hE hS hA ⟨hx, hb, hml, hown, hts⟩ hl.1 (c_X8_meet l D H.size t0 σ α v15 ((σ.2.2.2.1 35) x5.toNatClampNeg) _ hF) (cwV 2 hts wg_X8_come_X8_meet_139 rfl rfl rfl (by decide +kernel) ⟨Nat.le_of_ble_eq_true rfl, Nat.le_of_ble_eq_true rfl⟩) (va_recv hK hP (ci := 8) (q0 := 8) rfl (sm_gX8 σ α)) rfl rfl (Nat.le_of_ble_eq_true rfl) dX8_come_102 ⟨Nat.zero_le _, Nat.zero_le _⟩ (fun r19 σ18 H locs hF hP hS => ?_)
          exact B105 (mp_X8_come_53 K n53) ih53 σ18 x1 x2 x3 x4 x5 v15 r19 hF H locs ls hP hS (lv_sub hl [1, 2, 3, 4, 5, 6, 0] rfl)
        · replace hF := hF.2 h16
          refine lv_aload_n hx hb dX8_come_82 rfl (lv_at hl 1 rfl) ?_
          refine va_get (D := D) (ci := 8) (v := .ref (α.1 35)) (C := RX8) (T := TX8) (N := 13) hx hb hts in_X8 hown hK hP 8 (sm_gX8 σ α) rfl 6 (by decide) k_9 (fun _ h9 => h9) rfl dX8_come_83 ?_
          refine lv_iload hx hb dX8_come_86 (lv_at hl 6 rfl) ?_
          obtain ⟨h20, hF⟩ := hF
          refine va_iald (n := (σ.2.2.1 35)) (f := (σ.2.2.2.1 35)) hx hb hK hP 35 24 (sm_aX35 σ α) (sm_yX35 α) h20 dX8_come_88 ?_
          refine lv_goto (tgt := 105) hx hb dX8_come_89 (by decide) ?_
          exact B105 (mp_X8_come_53 K n53) ih53 σ x1 x2 x3 x4 x5 v15 ((σ.2.2.2.1 35) x5.toNatClampNeg) hF H locs ls hP hS (lv_sub hl [1, 2, 3, 4, 5, 6, 0] rfl)
  have B50 : ∀ (σ : sm_S) (x1 : Int32) (x2 : Int32) (x3 : Int32) (x4 : Int32), mp_X8_come_50 K σ x1 x2 x3 x4 → sm_J p l e (headSpec wp_X8_come { frames := 2, cells := 0, slots := 0, locals := 48 }).room s m ([.ref (α.1 8), .int p1, .int p2] : List Value).toArray below meth c (MQ below (va_Qv K (sm_B sm_wX D α) A) ([.ref (α.1 8), .int p1, .int p2] : List Value).toArray s 0 0 A) D A 8 (sm_wX σ α) 50 [(0, .ref (α.1 8)), (1, .int x1), (2, .int x2), (3, .int x3), (4, .int x4)] [] := by
    intro σ x1 x2 x3 x4 hF H locs ls hP hS hl
    unfold mp_X8_come_50 at hF
    refine lv_iconst (v := 0) hx hb dX8_come_50 (by decide) ?_
    refine lv_istore (lv' := [(5, .int 0), (0, .ref (α.1 8)), (1, .int x1), (2, .int x2), (3, .int x3), (4, .int x4)]) hx hb dX8_come_51 hl (by decide) rfl (fun ls hl => ?_)
    obtain ⟨n53, hF⟩ := hF
    exact B53 n53 σ x1 x2 x3 x4 0 hF H locs ls hP hS (lv_sub hl [1, 2, 3, 4, 5, 0] rfl)
  have B15 : ∀ (σ : sm_S) (x1 : Int32) (x2 : Int32) (y0 : Int32), mp_X8_come_15 K σ x1 x2 y0 → sm_J p l e (headSpec wp_X8_come { frames := 2, cells := 0, slots := 0, locals := 48 }).room s m ([.ref (α.1 8), .int p1, .int p2] : List Value).toArray below meth c (MQ below (va_Qv K (sm_B sm_wX D α) A) ([.ref (α.1 8), .int p1, .int p2] : List Value).toArray s 0 0 A) D A 8 (sm_wX σ α) 15 [(0, .ref (α.1 8)), (1, .int x1), (2, .int x2)] [.int y0] := by
    intro σ x1 x2 y0 hF H locs ls hP hS hl
    unfold mp_X8_come_15 at hF
    refine lv_istore_n (lv' := [(3, .int y0), (0, .ref (α.1 8)), (1, .int x1), (2, .int x2)]) hx hb dX8_come_15 rfl hl (by decide) rfl (fun ls hl => ?_)
    refine lv_iload_n hx hb dX8_come_16 rfl (lv_at hl 0 rfl) ?_
    refine lv_istore (lv' := [(4, .int y0), (3, .int y0), (0, .ref (α.1 8)), (1, .int x1), (2, .int x2)]) hx hb dX8_come_17 hl (by decide) rfl (fun ls hl => ?_)
    refine lv_iload_n hx hb dX8_come_19 rfl (lv_at hl 1 rfl) ?_
    refine lv_if_eq (tgt := 34) hx hb dX8_come_20 (by decide) (fun h21 => ?_) (fun h21 => ?_)
    · replace hF := hF.1 h21
      refine lv_aload_n hx hb dX8_come_34 rfl (lv_at hl 2 rfl) ?_
      refine va_get (D := D) (ci := 8) (v := .ref (α.1 32)) (C := RX8) (T := TX8) (N := 13) hx hb hts in_X8 hown hK hP 8 (sm_gX8 σ α) rfl 3 (by decide) k_10 (fun _ h9 => h9) rfl dX8_come_35 ?_
      refine lv_iload_n hx hb dX8_come_38 rfl (lv_at hl 3 rfl) ?_
      obtain ⟨h22, hF⟩ := hF
      refine va_bald (n := (σ.2.2.1 32)) (f := (σ.2.2.2.1 32)) hx hb hK hP 32 21 (sm_aX32 σ α) (sm_yX32 α) h22 dX8_come_39 ?_
      refine lv_iload_n hx hb dX8_come_40 rfl (lv_at hl 4 rfl) ?_
      refine lv_icmp_eq (tgt := 50) hx hb dX8_come_41 (by decide) (fun h23 => ?_) (fun h23 => ?_)
      · replace hF := hF.1 h23
        exact B50 σ x1 x2 y0 y0 hF H locs ls hP hS (lv_sub hl [2, 3, 4, 1, 0] rfl)
      · replace hF := hF.2 h23
        refine lv_aload_n hx hb dX8_come_44 rfl (lv_at hl 2 rfl) ?_
        refine lv_iload_n hx hb dX8_come_45 rfl (lv_at hl 3 rfl) ?_
        refine va_put (D := D) (ci := 8) (v := .int x1) (ty := .int) (C := RX8) (T := TX8) (N := 13) hx hb hts in_X8 tyX8 tyX8_ok nmX8 hown hK hP (hD.to (sm_wX_m _ _)) hS 8 (sm_gX8 σ α) rfl 12 (by decide) k_2 (fun _ h9 => h9) rfl (by decide +kernel) rfl rfl (Nat.le_of_ble_eq_true rfl) dX8_come_46 (fun H locs hP _ hS => ?_)
        rw [sm_iX34] at hP
        obtain ⟨σ24, eσ24⟩ : ∃ x : sm_S, x = sm_i σ 34 x1 := ⟨_, rfl⟩
        replace hF := hF σ24 eσ24
        rw [← eσ24] at hP
        exact W.vret hx hb hr (fun t ht hW => ⟨⟨σ24, rfl, hF, (by unfold sm_B; rw [ht]; exact hP)⟩, hS.F ht⟩) hS.2.2 dX8_come_49
    · replace hF := hF.2 h21
      refine lv_aload_n hx hb dX8_come_23 rfl (lv_at hl 2 rfl) ?_
      refine va_get (D := D) (ci := 8) (v := .ref (α.1 32)) (C := RX8) (T := TX8) (N := 13) hx hb hts in_X8 hown hK hP 8 (sm_gX8 σ α) rfl 3 (by decide) k_10 (fun _ h9 => h9) rfl dX8_come_24 ?_
      refine lv_iload_n hx hb dX8_come_27 rfl (lv_at hl 3 rfl) ?_
      refine lv_iload_n hx hb dX8_come_28 rfl (lv_at hl 4 rfl) ?_
      refine lv_i2b hx hb dX8_come_29 rfl ?_
      obtain ⟨h25, hF⟩ := hF
      refine va_bast (n := (σ.2.2.1 32)) (f := (σ.2.2.2.1 32)) (x := x2.toInt8.toInt32) hx hb hK hP (hD.to (sm_wX_m _ _)) hS 32 21 (sm_aX32 σ α) (sm_yX32 α) h25 dX8_come_30 (fun H locs hP _ hS => ?_)
      rw [sm_rX32] at hP
      obtain ⟨σ26, eσ26⟩ : ∃ x : sm_S, x = sm_r σ 32 (upd (σ.2.2.2.1 32) x1.toNatClampNeg (vp_nar .byte x2.toInt8.toInt32)) := ⟨_, rfl⟩
      replace hF := hF σ26 eσ26
      rw [← eσ26] at hP
      refine lv_goto (tgt := 50) hx hb dX8_come_31 (by decide) ?_
      exact B50 σ26 x1 x2 y0 y0 hF H locs ls hP hS (lv_sub hl [2, 3, 4, 1, 0] rfl)
  unfold mp_X8_come at hF
  revert hP hS
  generalize hLo : ([] : List Loc) = locs
  suffices h9 : ∀ (H : Heap) (locs : List Loc), va_P D vwCl (sm_wX σ α) H → va_S A s.heap H locs → W p l e (headSpec wp_X8_come { frames := 2, cells := 0, slots := 0, locals := 48 }).room s m ([.ref (α.1 8), .int p1, .int p2] : List Value).toArray below meth c H locs 0 0 (MQ below (va_Qv K (sm_B sm_wX D α) A) ([.ref (α.1 8), .int p1, .int p2] : List Value).toArray s 0 0 A) (F0 m 0 ls []) from fun hP hS => h9 s.heap locs hP hS
  intro H locs hP hS
  refine lv_aload_n hx hb dX8_come_0 rfl (lv_at hl 0 rfl) ?_
  refine va_get (D := D) (ci := 8) (v := .ref (α.1 32)) (C := RX8) (T := TX8) (N := 13) hx hb hts in_X8 hown hK hP 8 (sm_gX8 σ α) rfl 3 (by decide) k_10 (fun _ h9 => h9) rfl dX8_come_1 ?_
  refine lv_iload_n hx hb dX8_come_4 rfl (lv_at hl 1 rfl) ?_
  obtain ⟨h27, hF⟩ := hF
  refine va_bald (n := (σ.2.2.1 32)) (f := (σ.2.2.2.1 32)) hx hb hK hP 32 21 (sm_aX32 σ α) (sm_yX32 α) h27 dX8_come_5 ?_
  refine lv_iconst (v := -1) hx hb dX8_come_6 (by decide) ?_
  refine lv_icmp_ne (tgt := 14) hx hb dX8_come_7 (by decide) (fun h28 => ?_) (fun h28 => ?_)
  · replace hF := hF.1 h28
    refine lv_iconst (v := 0) hx hb dX8_come_14 (by decide) ?_
    exact B15 σ p1 p2 0 hF H locs ls hP hS (lv_sub hl [0, 1, 2] rfl)
  · replace hF := hF.2 h28
    refine lv_iconst (v := 1) hx hb dX8_come_10 (by decide) ?_
    refine lv_goto (tgt := 15) hx hb dX8_come_11 (by decide) ?_
    exact B15 σ p1 p2 1 hF H locs ls hP hS (lv_sub hl [0, 1, 2] rfl)
theorem dX8_firstMarked_0 : decode cX8_firstMarked 0 = .ok (.aload_n 0, 1) := by decide +kernel
theorem dX8_firstMarked_1 : decode cX8_firstMarked 1 = .ok (.getfield 41, 3) := by decide +kernel
theorem dX8_firstMarked_4 : decode cX8_firstMarked 4 = .ok (.getfield 66, 3) := by decide +kernel
theorem dX8_firstMarked_7 : decode cX8_firstMarked 7 = .ok (.aload_n 0, 1) := by decide +kernel
theorem dX8_firstMarked_8 : decode cX8_firstMarked 8 = .ok (.getfield 72, 3) := by decide +kernel
theorem dX8_firstMarked_11 : decode cX8_firstMarked 11 = .ok (.iaload, 1) := by decide +kernel
theorem dX8_firstMarked_12 : decode cX8_firstMarked 12 = .ok (.aload_n 0, 1) := by decide +kernel
theorem dX8_firstMarked_13 : decode cX8_firstMarked 13 = .ok (.getfield 41, 3) := by decide +kernel
theorem dX8_firstMarked_16 : decode cX8_firstMarked 16 = .ok (.getfield 98, 3) := by decide +kernel
theorem dX8_firstMarked_19 : decode cX8_firstMarked 19 = .ok (.aload_n 0, 1) := by decide +kernel
theorem dX8_firstMarked_20 : decode cX8_firstMarked 20 = .ok (.getfield 72, 3) := by decide +kernel
theorem dX8_firstMarked_23 : decode cX8_firstMarked 23 = .ok (.iaload, 1) := by decide +kernel
theorem dX8_firstMarked_24 : decode cX8_firstMarked 24 = .ok (.iadd, 1) := by decide +kernel
theorem dX8_firstMarked_25 : decode cX8_firstMarked 25 = .ok (.istore_n 1, 1) := by decide +kernel
theorem dX8_firstMarked_26 : decode cX8_firstMarked 26 = .ok (.aload_n 0, 1) := by decide +kernel
theorem dX8_firstMarked_27 : decode cX8_firstMarked 27 = .ok (.getfield 83, 3) := by decide +kernel
theorem dX8_firstMarked_30 : decode cX8_firstMarked 30 = .ok (.istore_n 2, 1) := by decide +kernel
theorem dX8_firstMarked_31 : decode cX8_firstMarked 31 = .ok (.iload_n 2, 1) := by decide +kernel
theorem dX8_firstMarked_32 : decode cX8_firstMarked 32 = .ok (.iload_n 1, 1) := by decide +kernel
theorem dX8_firstMarked_33 : decode cX8_firstMarked 33 = .ok (.if_icmp .ge 25, 3) := by decide +kernel
theorem dX8_firstMarked_36 : decode cX8_firstMarked 36 = .ok (.aload_n 0, 1) := by decide +kernel
theorem dX8_firstMarked_37 : decode cX8_firstMarked 37 = .ok (.getfield 18, 3) := by decide +kernel
theorem dX8_firstMarked_40 : decode cX8_firstMarked 40 = .ok (.iload_n 2, 1) := by decide +kernel
theorem dX8_firstMarked_41 : decode cX8_firstMarked 41 = .ok (.baload, 1) := by decide +kernel
theorem dX8_firstMarked_42 : decode cX8_firstMarked 42 = .ok (.ifCond .eq 10, 3) := by decide +kernel
theorem dX8_firstMarked_45 : decode cX8_firstMarked 45 = .ok (.aload_n 0, 1) := by decide +kernel
theorem dX8_firstMarked_46 : decode cX8_firstMarked 46 = .ok (.iload_n 2, 1) := by decide +kernel
theorem dX8_firstMarked_47 : decode cX8_firstMarked 47 = .ok (.putfield 83, 3) := by decide +kernel
theorem dX8_firstMarked_50 : decode cX8_firstMarked 50 = .ok (.iload_n 2, 1) := by decide +kernel
theorem dX8_firstMarked_51 : decode cX8_firstMarked 51 = .ok (.ireturn, 1) := by decide +kernel
theorem dX8_firstMarked_52 : decode cX8_firstMarked 52 = .ok (.iinc 2 1, 3) := by decide +kernel
theorem dX8_firstMarked_55 : decode cX8_firstMarked 55 = .ok (.goto (-24), 3) := by decide +kernel
theorem dX8_firstMarked_58 : decode cX8_firstMarked 58 = .ok (.iconst (-1), 1) := by decide +kernel
theorem dX8_firstMarked_59 : decode cX8_firstMarked 59 = .ok (.ireturn, 1) := by decide +kernel
def wp_X8_firstMarked : List Cond := .code yX8_firstMarked cX8_firstMarked 3 (some .int) :: (([.fieldLink RX8 18 "SteadyMachine$Verifier" "marked" "[Z", .fieldLink RX8 83 "SteadyMachine$Verifier" "lowestMark" "I", .fieldLink RX8 41 "SteadyMachine$Verifier" "methods" "LSteadyMachine$Methods;", .fieldLink RX8 66 "SteadyMachine$Methods" "code" "[I", .fieldLink RX8 72 "SteadyMachine$Verifier" "method" "I", .fieldLink RX8 98 "SteadyMachine$Methods" "length" "[I"] ++ wsX40) ++ wsX80)
theorem wq_X8_firstMarked : wp_X8_firstMarked.all goodWord = true := wa_c rfl (wa_a (wa_a (by decide +kernel) uq_X4) uq_X8)
theorem wt_X8_firstMarked : GoodIn lw_tbl wp_X8_firstMarked := wm_c (List.mem_of_getElem? (i := 773) (by decide +kernel)) rfl (wm_a (wm_a (goodIn_r _ [380, 385, 377, 248, 383, 255] (by decide +kernel) (by decide +kernel)) ut_X4) ut_X8)
theorem wi_X8_firstMarked_X4 : ∀ w ∈ wsX40, w ∈ wp_X8_firstMarked := fun w h => List.mem_cons_of_mem _ (List.mem_append_left _ (List.mem_append_right _ h))
theorem wi_X8_firstMarked_X8 : ∀ w ∈ wsX80, w ∈ wp_X8_firstMarked := fun w h => List.mem_cons_of_mem _ (List.mem_append_right _ h)
set_option maxHeartbeats 4000000 in
set_option maxRecDepth 100000 in
theorem c_X8_firstMarked (l : Launch) (D : va_G) (sz t0 : Nat) (σ : sm_S) (α : sm_A) (K : Int32 → sm_S → Prop) (hF : mp_X8_firstMarked σ K) : Met l yX8_firstMarked wp_X8_firstMarked { frames := 0, cells := 0, slots := 0, locals := 0 } (sm_P sm_wX sm_tX 37 D sz t0 σ α [.ref (α.1 8)]) (va_Qi K (sm_B sm_wX D α) (sm_a α 37 sz)) 0 0 (sm_a α 37 sz) := by
  refine Met.ofW (cc := cX8_firstMarked) (maxL := 3) (ret := (some .int)) (by decide) rfl ?_
  intro p e s m args below meth c s₁ B hml hv
  obtain ⟨rfl, hsz, hP, hK, hD0, hE⟩ := hv
  have hx := B.exec
  have hb := B.bytes
  have hr := B.returns
  have hts := atoms_spec (ws := wp_X8_firstMarked) B.pre
  have hown : s.vm.findClass RX8 = some m.cls := findClass_of_methodNamed B.named
  have hlocks := B.notSynchronized
  subst hsz
  have hD : sm_D (sm_a α 37 s.heap.size) α 37 := hD0.own
  have hA : ∀ q : Nat, s.heap.size ≤ q → sm_a α 37 s.heap.size q := fun q h => Or.inr h
  generalize hAe : sm_a α 37 s.heap.size = A at hD hA hE ⊢
  have hS : va_S A s.heap s.heap [] := va_S.rf
  have in_X4 : ∀ w ∈ wsX40, w ∈ wp_X8_firstMarked := wi_X8_firstMarked_X4
  have in_X8 : ∀ w ∈ wsX80, w ∈ wp_X8_firstMarked := wi_X8_firstMarked_X8
  have k_0 := hts (.fieldLink RX8 18 "SteadyMachine$Verifier" "marked" "[Z") (by decide +kernel)
  have k_1 := hts (.fieldLink RX8 83 "SteadyMachine$Verifier" "lowestMark" "I") (by decide +kernel)
  have k_2 := hts (.fieldLink RX8 41 "SteadyMachine$Verifier" "methods" "LSteadyMachine$Methods;") (by decide +kernel)
  have k_3 := hts (.fieldLink RX8 66 "SteadyMachine$Methods" "code" "[I") (by decide +kernel)
  have k_4 := hts (.fieldLink RX8 72 "SteadyMachine$Verifier" "method" "I") (by decide +kernel)
  have k_5 := hts (.fieldLink RX8 98 "SteadyMachine$Methods" "length" "[I") (by decide +kernel)
  have hl := lv_entry ([.ref (α.1 8)]) (n := 3) (Nat.le_of_ble_eq_true rfl)
  rw [lg_entry_eq]
  generalize (lg_sl ([.ref (α.1 8)]) ++ List.replicate (3 - (lg_sl ([.ref (α.1 8)])).length) Slot.unset).toArray = ls at hl ⊢
  have hl : lv_has ls 3 [(0, .ref (α.1 8))] := hl
  have B31 : ∀ (n : Nat) (σ : sm_S) (x1 : Int32) (x2 : Int32), mp_X8_firstMarked_31 K n σ x1 x2 → sm_J p l e (headSpec wp_X8_firstMarked { frames := 0, cells := 0, slots := 0, locals := 0 }).room s m ([.ref (α.1 8)] : List Value).toArray below meth c (MQ below (va_Qi K (sm_B sm_wX D α) A) ([.ref (α.1 8)] : List Value).toArray s 0 0 A) D A 3 (sm_wX σ α) 31 [(0, .ref (α.1 8)), (1, .int x1), (2, .int x2)] [] := by
    intro n31
    induction n31 with
    | zero =>
      intro σ x1 x2 hF
      exact hF.elim
    | succ n31 ih31 =>
      intro σ x1 x2 hF H locs ls hP hS hl
      unfold mp_X8_firstMarked_31 at hF
      refine lv_iload_n hx hb dX8_firstMarked_31 rfl (lv_at hl 2 rfl) ?_
      refine lv_iload_n hx hb dX8_firstMarked_32 rfl (lv_at hl 1 rfl) ?_
      refine lv_icmp_ge (tgt := 58) hx hb dX8_firstMarked_33 (by decide) (fun h1 => ?_) (fun h1 => ?_)
      · replace hF := hF.1 h1
        refine lv_iconst (v := -1) hx hb dX8_firstMarked_58 (by decide) ?_
        exact W.iret (v := (-1)) hx hb hr (fun t ht hW => ⟨⟨(-1), σ, rfl, hF, (by unfold sm_B; rw [ht]; exact hP)⟩, hS.F ht⟩) hS.2.2 dX8_firstMarked_59
      · replace hF := hF.2 h1
        refine lv_aload_n hx hb dX8_firstMarked_36 rfl (lv_at hl 0 rfl) ?_
        refine va_get (D := D) (ci := 8) (v := .ref (α.1 34)) (C := RX8) (T := TX8) (N := 13) hx hb hts in_X8 hown hK hP 8 (sm_gX8 σ α) rfl 5 (by decide) k_0 (fun _ h9 => h9) rfl dX8_firstMarked_37 ?_
        refine lv_iload_n hx hb dX8_firstMarked_40 rfl (lv_at hl 2 rfl) ?_
        obtain ⟨h2, hF⟩ := hF
        refine va_zald (n := (σ.2.2.1 34)) (f := (σ.2.2.2.1 34)) hx hb hK hP 34 23 (sm_aX34 σ α) (sm_yX34 α) h2 dX8_firstMarked_41 ?_
        refine lv_if_eq (tgt := 52) hx hb dX8_firstMarked_42 (by decide) (fun h3 => ?_) (fun h3 => ?_)
        · replace hF := hF.1 h3
          obtain ⟨v4, ev4⟩ : ∃ y : Int32, y = x2 + 1 := ⟨_, rfl⟩
          replace hF := hF v4 ev4
          refine lv_iinc (v := v4) (lv' := [(2, .int v4), (0, .ref (α.1 8)), (1, .int x1)]) hx hb dX8_firstMarked_52 hl (k := 2) rfl (by rw [ev4]; rfl) (by decide) rfl (fun ls hl => ?_)
          refine lv_goto (tgt := 31) hx hb dX8_firstMarked_55 (by decide) ?_
          exact ih31 σ x1 v4 hF H locs ls hP hS (lv_sub hl [1, 2, 0] rfl)
        · replace hF := hF.2 h3
          refine lv_aload_n hx hb dX8_firstMarked_45 rfl (lv_at hl 0 rfl) ?_
          refine lv_iload_n hx hb dX8_firstMarked_46 rfl (lv_at hl 2 rfl) ?_
          refine va_put (D := D) (ci := 8) (v := .int x2) (ty := .int) (C := RX8) (T := TX8) (N := 13) hx hb hts in_X8 tyX8 tyX8_ok nmX8 hown hK hP (hD.to (sm_wX_m _ _)) hS 8 (sm_gX8 σ α) rfl 10 (by decide) k_1 (fun _ h9 => h9) rfl (by decide +kernel) rfl rfl (Nat.le_of_ble_eq_true rfl) dX8_firstMarked_47 (fun H locs hP _ hS => ?_)
          rw [sm_iX32] at hP
          obtain ⟨σ5, eσ5⟩ : ∃ x : sm_S, x = sm_i σ 32 x2 := ⟨_, rfl⟩
          replace hF := hF σ5 eσ5
          rw [← eσ5] at hP
          refine lv_iload_n hx hb dX8_firstMarked_50 rfl (lv_at hl 2 rfl) ?_
          exact W.iret (v := x2) hx hb hr (fun t ht hW => ⟨⟨x2, σ5, rfl, hF, (by unfold sm_B; rw [ht]; exact hP)⟩, hS.F ht⟩) hS.2.2 dX8_firstMarked_51
  unfold mp_X8_firstMarked at hF
  revert hP hS
  generalize hLo : ([] : List Loc) = locs
  suffices h9 : ∀ (H : Heap) (locs : List Loc), va_P D vwCl (sm_wX σ α) H → va_S A s.heap H locs → W p l e (headSpec wp_X8_firstMarked { frames := 0, cells := 0, slots := 0, locals := 0 }).room s m ([.ref (α.1 8)] : List Value).toArray below meth c H locs 0 0 (MQ below (va_Qi K (sm_B sm_wX D α) A) ([.ref (α.1 8)] : List Value).toArray s 0 0 A) (F0 m 0 ls []) from fun hP hS => h9 s.heap locs hP hS
  intro H locs hP hS
  refine lv_aload_n hx hb dX8_firstMarked_0 rfl (lv_at hl 0 rfl) ?_
  refine va_get (D := D) (ci := 8) (v := .ref (α.1 4)) (C := RX8) (T := TX8) (N := 13) hx hb hts in_X8 hown hK hP 8 (sm_gX8 σ α) rfl 2 (by decide) k_2 (fun _ h9 => h9) rfl dX8_firstMarked_1 ?_
  refine va_get (D := D) (ci := 4) (v := .ref (α.1 26)) (C := RX4) (T := TX4) (N := 12) hx hb hts in_X4 hown hK hP 4 (sm_gX4 σ α) rfl 8 (by decide) k_3 (fun _ h9 => h9) rfl dX8_firstMarked_4 ?_
  refine lv_aload_n hx hb dX8_firstMarked_7 rfl (lv_at hl 0 rfl) ?_
  refine va_get (D := D) (ci := 8) (v := .int (σ.1 30)) (C := RX8) (T := TX8) (N := 13) hx hb hts in_X8 hown hK hP 8 (sm_gX8 σ α) rfl 8 (by decide) k_4 (fun _ h9 => h9) rfl dX8_firstMarked_8 ?_
  obtain ⟨h6, hF⟩ := hF
  refine va_iald (n := (σ.2.2.1 26)) (f := (σ.2.2.2.1 26)) hx hb hK hP 26 15 (sm_aX26 σ α) (sm_yX26 α) h6 dX8_firstMarked_11 ?_
  refine lv_aload_n hx hb dX8_firstMarked_12 rfl (lv_at hl 0 rfl) ?_
  refine va_get (D := D) (ci := 8) (v := .ref (α.1 4)) (C := RX8) (T := TX8) (N := 13) hx hb hts in_X8 hown hK hP 8 (sm_gX8 σ α) rfl 2 (by decide) k_2 (fun _ h9 => h9) rfl dX8_firstMarked_13 ?_
  refine va_get (D := D) (ci := 4) (v := .ref (α.1 27)) (C := RX4) (T := TX4) (N := 12) hx hb hts in_X4 hown hK hP 4 (sm_gX4 σ α) rfl 9 (by decide) k_5 (fun _ h9 => h9) rfl dX8_firstMarked_16 ?_
  refine lv_aload_n hx hb dX8_firstMarked_19 rfl (lv_at hl 0 rfl) ?_
  refine va_get (D := D) (ci := 8) (v := .int (σ.1 30)) (C := RX8) (T := TX8) (N := 13) hx hb hts in_X8 hown hK hP 8 (sm_gX8 σ α) rfl 8 (by decide) k_4 (fun _ h9 => h9) rfl dX8_firstMarked_20 ?_
  obtain ⟨h7, hF⟩ := hF
  refine va_iald (n := (σ.2.2.1 27)) (f := (σ.2.2.2.1 27)) hx hb hK hP 27 16 (sm_aX27 σ α) (sm_yX27 α) h7 dX8_firstMarked_23 ?_
  refine lv_iadd hx hb dX8_firstMarked_24 ?_
  refine lv_topi (fun v8 ev8 => ?_)
  replace hF := hF v8 ev8
  refine lv_istore_n (lv' := [(1, .int v8), (0, .ref (α.1 8))]) hx hb dX8_firstMarked_25 rfl hl (by decide) rfl (fun ls hl => ?_)
  refine lv_aload_n hx hb dX8_firstMarked_26 rfl (lv_at hl 1 rfl) ?_
  refine va_get (D := D) (ci := 8) (v := .int (σ.1 32)) (C := RX8) (T := TX8) (N := 13) hx hb hts in_X8 hown hK hP 8 (sm_gX8 σ α) rfl 10 (by decide) k_1 (fun _ h9 => h9) rfl dX8_firstMarked_27 ?_
  refine lv_topi (fun v9 ev9 => ?_)
  replace hF := hF v9 ev9
  refine lv_istore_n (lv' := [(2, .int v9), (1, .int v8), (0, .ref (α.1 8))]) hx hb dX8_firstMarked_30 rfl hl (by decide) rfl (fun ls hl => ?_)
  obtain ⟨n31, hF⟩ := hF
  exact B31 n31 σ v8 v9 hF H locs ls hP hS (lv_sub hl [2, 1, 0] rfl)
theorem dX8_push_0 : decode cX8_push 0 = .ok (.aload_n 0, 1) := by decide +kernel
theorem dX8_push_1 : decode cX8_push 1 = .ok (.getfield 121, 3) := by decide +kernel
theorem dX8_push_4 : decode cX8_push 4 = .ok (.aload_n 0, 1) := by decide +kernel
theorem dX8_push_5 : decode cX8_push 5 = .ok (.getfield 41, 3) := by decide +kernel
theorem dX8_push_8 : decode cX8_push 8 = .ok (.getfield 136, 3) := by decide +kernel
theorem dX8_push_11 : decode cX8_push 11 = .ok (.aload_n 0, 1) := by decide +kernel
theorem dX8_push_12 : decode cX8_push 12 = .ok (.getfield 72, 3) := by decide +kernel
theorem dX8_push_15 : decode cX8_push 15 = .ok (.iaload, 1) := by decide +kernel
theorem dX8_push_16 : decode cX8_push 16 = .ok (.if_icmp .lt 9, 3) := by decide +kernel
theorem dX8_push_19 : decode cX8_push 19 = .ok (.aload_n 0, 1) := by decide +kernel
theorem dX8_push_20 : decode cX8_push 20 = .ok (.iconst 0, 1) := by decide +kernel
theorem dX8_push_21 : decode cX8_push 21 = .ok (.putfield 111, 3) := by decide +kernel
theorem dX8_push_24 : decode cX8_push 24 = .ok (.return_, 1) := by decide +kernel
theorem dX8_push_25 : decode cX8_push 25 = .ok (.aload_n 0, 1) := by decide +kernel
theorem dX8_push_26 : decode cX8_push 26 = .ok (.getfield 22, 3) := by decide +kernel
theorem dX8_push_29 : decode cX8_push 29 = .ok (.aload_n 0, 1) := by decide +kernel
theorem dX8_push_30 : decode cX8_push 30 = .ok (.getfield 75, 3) := by decide +kernel
theorem dX8_push_33 : decode cX8_push 33 = .ok (.aload_n 0, 1) := by decide +kernel
theorem dX8_push_34 : decode cX8_push 34 = .ok (.getfield 121, 3) := by decide +kernel
theorem dX8_push_37 : decode cX8_push 37 = .ok (.iadd, 1) := by decide +kernel
theorem dX8_push_38 : decode cX8_push 38 = .ok (.iload_n 1, 1) := by decide +kernel
theorem dX8_push_39 : decode cX8_push 39 = .ok (.iastore, 1) := by decide +kernel
theorem dX8_push_40 : decode cX8_push 40 = .ok (.aload_n 0, 1) := by decide +kernel
theorem dX8_push_41 : decode cX8_push 41 = .ok (.dup, 1) := by decide +kernel
theorem dX8_push_42 : decode cX8_push 42 = .ok (.getfield 121, 3) := by decide +kernel
theorem dX8_push_45 : decode cX8_push 45 = .ok (.iconst 1, 1) := by decide +kernel
theorem dX8_push_46 : decode cX8_push 46 = .ok (.iadd, 1) := by decide +kernel
theorem dX8_push_47 : decode cX8_push 47 = .ok (.putfield 121, 3) := by decide +kernel
theorem dX8_push_50 : decode cX8_push 50 = .ok (.return_, 1) := by decide +kernel
def wp_X8_push : List Cond := .code yX8_push cX8_push 2 none :: (([.fieldLink RX8 121 "SteadyMachine$Verifier" "height" "I", .fieldLink RX8 41 "SteadyMachine$Verifier" "methods" "LSteadyMachine$Methods;", .fieldLink RX8 136 "SteadyMachine$Methods" "stack" "[I", .fieldLink RX8 72 "SteadyMachine$Verifier" "method" "I", .fieldLink RX8 22 "SteadyMachine$Verifier" "now" "[I", .fieldLink RX8 75 "SteadyMachine$Verifier" "locals" "I", .fieldLink RX8 111 "SteadyMachine$Verifier" "fits" "Z"] ++ wsX40) ++ wsX80)
theorem wq_X8_push : wp_X8_push.all goodWord = true := wa_c rfl (wa_a (wa_a (by decide +kernel) uq_X4) uq_X8)
theorem wt_X8_push : GoodIn lw_tbl wp_X8_push := wm_c (List.mem_of_getElem? (i := 799) (by decide +kernel)) rfl (wm_a (wm_a (goodIn_r _ [382, 377, 246, 383, 381, 384, 386] (by decide +kernel) (by decide +kernel)) ut_X4) ut_X8)
theorem wi_X8_push_X4 : ∀ w ∈ wsX40, w ∈ wp_X8_push := fun w h => List.mem_cons_of_mem _ (List.mem_append_left _ (List.mem_append_right _ h))
theorem wi_X8_push_X8 : ∀ w ∈ wsX80, w ∈ wp_X8_push := fun w h => List.mem_cons_of_mem _ (List.mem_append_right _ h)
set_option maxHeartbeats 4000000 in
set_option maxRecDepth 100000 in
theorem c_X8_push (l : Launch) (D : va_G) (sz t0 : Nat) (σ : sm_S) (α : sm_A) (p1 : Int32) (K : sm_S → Prop) (hF : mp_X8_push σ p1 K) : Met l yX8_push wp_X8_push { frames := 0, cells := 0, slots := 0, locals := 0 } (sm_P sm_wX sm_tX 37 D sz t0 σ α [.ref (α.1 8), .int p1]) (va_Qv K (sm_B sm_wX D α) (sm_a α 37 sz)) 0 0 (sm_a α 37 sz) := by
  refine Met.ofW (cc := cX8_push) (maxL := 2) (ret := none) (by decide) rfl ?_
  intro p e s m args below meth c s₁ B hml hv
  obtain ⟨rfl, hsz, hP, hK, hD0, hE⟩ := hv
  have hx := B.exec
  have hb := B.bytes
  have hr := B.returns
  have hts := atoms_spec (ws := wp_X8_push) B.pre
  have hown : s.vm.findClass RX8 = some m.cls := findClass_of_methodNamed B.named
  have hlocks := B.notSynchronized
  subst hsz
  have hD : sm_D (sm_a α 37 s.heap.size) α 37 := hD0.own
  have hA : ∀ q : Nat, s.heap.size ≤ q → sm_a α 37 s.heap.size q := fun q h => Or.inr h
  generalize hAe : sm_a α 37 s.heap.size = A at hD hA hE ⊢
  have hS : va_S A s.heap s.heap [] := va_S.rf
  have in_X4 : ∀ w ∈ wsX40, w ∈ wp_X8_push := wi_X8_push_X4
  have in_X8 : ∀ w ∈ wsX80, w ∈ wp_X8_push := wi_X8_push_X8
  have k_0 := hts (.fieldLink RX8 121 "SteadyMachine$Verifier" "height" "I") (by decide +kernel)
  have k_1 := hts (.fieldLink RX8 41 "SteadyMachine$Verifier" "methods" "LSteadyMachine$Methods;") (by decide +kernel)
  have k_2 := hts (.fieldLink RX8 136 "SteadyMachine$Methods" "stack" "[I") (by decide +kernel)
  have k_3 := hts (.fieldLink RX8 72 "SteadyMachine$Verifier" "method" "I") (by decide +kernel)
  have k_4 := hts (.fieldLink RX8 22 "SteadyMachine$Verifier" "now" "[I") (by decide +kernel)
  have k_5 := hts (.fieldLink RX8 75 "SteadyMachine$Verifier" "locals" "I") (by decide +kernel)
  have k_6 := hts (.fieldLink RX8 111 "SteadyMachine$Verifier" "fits" "Z") (by decide +kernel)
  have hl := lv_entry ([.ref (α.1 8), .int p1]) (n := 2) (Nat.le_of_ble_eq_true rfl)
  rw [lg_entry_eq]
  generalize (lg_sl ([.ref (α.1 8), .int p1]) ++ List.replicate (2 - (lg_sl ([.ref (α.1 8), .int p1])).length) Slot.unset).toArray = ls at hl ⊢
  have hl : lv_has ls 2 [(0, .ref (α.1 8)), (1, .int p1)] := hl
  unfold mp_X8_push at hF
  revert hP hS
  generalize hLo : ([] : List Loc) = locs
  suffices h9 : ∀ (H : Heap) (locs : List Loc), va_P D vwCl (sm_wX σ α) H → va_S A s.heap H locs → W p l e (headSpec wp_X8_push { frames := 0, cells := 0, slots := 0, locals := 0 }).room s m ([.ref (α.1 8), .int p1] : List Value).toArray below meth c H locs 0 0 (MQ below (va_Qv K (sm_B sm_wX D α) A) ([.ref (α.1 8), .int p1] : List Value).toArray s 0 0 A) (F0 m 0 ls []) from fun hP hS => h9 s.heap locs hP hS
  intro H locs hP hS
  refine lv_aload_n hx hb dX8_push_0 rfl (lv_at hl 0 rfl) ?_
  refine va_get (D := D) (ci := 8) (v := .int (σ.1 29)) (C := RX8) (T := TX8) (N := 13) hx hb hts in_X8 hown hK hP 8 (sm_gX8 σ α) rfl 7 (by decide) k_0 (fun _ h9 => h9) rfl dX8_push_1 ?_
  refine lv_aload_n hx hb dX8_push_4 rfl (lv_at hl 0 rfl) ?_
  refine va_get (D := D) (ci := 8) (v := .ref (α.1 4)) (C := RX8) (T := TX8) (N := 13) hx hb hts in_X8 hown hK hP 8 (sm_gX8 σ α) rfl 2 (by decide) k_1 (fun _ h9 => h9) rfl dX8_push_5 ?_
  refine va_get (D := D) (ci := 4) (v := .ref (α.1 25)) (C := RX4) (T := TX4) (N := 12) hx hb hts in_X4 hown hK hP 4 (sm_gX4 σ α) rfl 7 (by decide) k_2 (fun _ h9 => h9) rfl dX8_push_8 ?_
  refine lv_aload_n hx hb dX8_push_11 rfl (lv_at hl 0 rfl) ?_
  refine va_get (D := D) (ci := 8) (v := .int (σ.1 30)) (C := RX8) (T := TX8) (N := 13) hx hb hts in_X8 hown hK hP 8 (sm_gX8 σ α) rfl 8 (by decide) k_3 (fun _ h9 => h9) rfl dX8_push_12 ?_
  obtain ⟨h1, hF⟩ := hF
  refine va_iald (n := (σ.2.2.1 25)) (f := (σ.2.2.2.1 25)) hx hb hK hP 25 14 (sm_aX25 σ α) (sm_yX25 α) h1 dX8_push_15 ?_
  refine lv_icmp_lt (tgt := 25) hx hb dX8_push_16 (by decide) (fun h2 => ?_) (fun h2 => ?_)
  · replace hF := hF.1 h2
    refine lv_aload_n hx hb dX8_push_25 rfl (lv_at hl 0 rfl) ?_
    refine va_get (D := D) (ci := 8) (v := .ref (α.1 35)) (C := RX8) (T := TX8) (N := 13) hx hb hts in_X8 hown hK hP 8 (sm_gX8 σ α) rfl 6 (by decide) k_4 (fun _ h9 => h9) rfl dX8_push_26 ?_
    refine lv_aload_n hx hb dX8_push_29 rfl (lv_at hl 0 rfl) ?_
    refine va_get (D := D) (ci := 8) (v := .int (σ.1 31)) (C := RX8) (T := TX8) (N := 13) hx hb hts in_X8 hown hK hP 8 (sm_gX8 σ α) rfl 9 (by decide) k_5 (fun _ h9 => h9) rfl dX8_push_30 ?_
    refine lv_aload_n hx hb dX8_push_33 rfl (lv_at hl 0 rfl) ?_
    refine va_get (D := D) (ci := 8) (v := .int (σ.1 29)) (C := RX8) (T := TX8) (N := 13) hx hb hts in_X8 hown hK hP 8 (sm_gX8 σ α) rfl 7 (by decide) k_0 (fun _ h9 => h9) rfl dX8_push_34 ?_
    refine lv_iadd hx hb dX8_push_37 ?_
    refine lv_iload_n hx hb dX8_push_38 rfl (lv_at hl 1 rfl) ?_
    obtain ⟨h3, hF⟩ := hF
    refine va_iast (n := (σ.2.2.1 35)) (f := (σ.2.2.2.1 35)) (x := p1) hx hb hK hP (hD.to (sm_wX_m _ _)) hS 35 24 (sm_aX35 σ α) (sm_yX35 α) h3 dX8_push_39 (fun H locs hP _ hS => ?_)
    rw [sm_rX35] at hP
    obtain ⟨σ4, eσ4⟩ : ∃ x : sm_S, x = sm_r σ 35 (upd (σ.2.2.2.1 35) ((σ.1 31) + (σ.1 29)).toNatClampNeg p1) := ⟨_, rfl⟩
    replace hF := hF σ4 eσ4
    rw [← eσ4] at hP
    refine lv_aload_n hx hb dX8_push_40 rfl (lv_at hl 0 rfl) ?_
    refine lv_dup hx hb dX8_push_41 rfl ?_
    refine va_get (D := D) (ci := 8) (v := .int (σ4.1 29)) (C := RX8) (T := TX8) (N := 13) hx hb hts in_X8 hown hK hP 8 (sm_gX8 σ4 α) rfl 7 (by decide) k_0 (fun _ h9 => h9) rfl dX8_push_42 ?_
    refine lv_iconst (v := 1) hx hb dX8_push_45 (by decide) ?_
    refine lv_iadd hx hb dX8_push_46 ?_
    refine va_put (D := D) (ci := 8) (v := .int ((σ4.1 29) + 1)) (ty := .int) (C := RX8) (T := TX8) (N := 13) hx hb hts in_X8 tyX8 tyX8_ok nmX8 hown hK hP (hD.to (sm_wX_m _ _)) hS 8 (sm_gX8 σ4 α) rfl 7 (by decide) k_0 (fun _ h9 => h9) rfl (by decide +kernel) rfl rfl (Nat.le_of_ble_eq_true rfl) dX8_push_47 (fun H locs hP _ hS => ?_)
    rw [sm_iX29] at hP
    obtain ⟨σ5, eσ5⟩ : ∃ x : sm_S, x = sm_i σ4 29 ((σ4.1 29) + 1) := ⟨_, rfl⟩
    replace hF := hF σ5 eσ5
    rw [← eσ5] at hP
    exact W.vret hx hb hr (fun t ht hW => ⟨⟨σ5, rfl, hF, (by unfold sm_B; rw [ht]; exact hP)⟩, hS.F ht⟩) hS.2.2 dX8_push_50
  · replace hF := hF.2 h2
    refine lv_aload_n hx hb dX8_push_19 rfl (lv_at hl 0 rfl) ?_
    refine lv_iconst (v := 0) hx hb dX8_push_20 (by decide) ?_
    refine va_put (D := D) (ci := 8) (v := .int 0) (ty := .boolean) (C := RX8) (T := TX8) (N := 13) hx hb hts in_X8 tyX8 tyX8_ok nmX8 hown hK hP (hD.to (sm_wX_m _ _)) hS 8 (sm_gX8 σ α) rfl 11 (by decide) k_6 (fun _ h9 => h9) rfl (by decide +kernel) sm_z0.1 sm_z0.2 (Nat.le_of_ble_eq_true rfl) dX8_push_21 (fun H locs hP _ hS => ?_)
    rw [sm_iX33] at hP
    obtain ⟨σ6, eσ6⟩ : ∃ x : sm_S, x = sm_i σ 33 0 := ⟨_, rfl⟩
    replace hF := hF σ6 eσ6
    rw [← eσ6] at hP
    exact W.vret hx hb hr (fun t ht hW => ⟨⟨σ6, rfl, hF, (by unfold sm_B; rw [ht]; exact hP)⟩, hS.F ht⟩) hS.2.2 dX8_push_24
theorem dX8_take_0 : decode cX8_take 0 = .ok (.aload_n 0, 1) := by decide +kernel
theorem dX8_take_1 : decode cX8_take 1 = .ok (.getfield 121, 3) := by decide +kernel
theorem dX8_take_4 : decode cX8_take 4 = .ok (.ifCond .ne 11, 3) := by decide +kernel
theorem dX8_take_7 : decode cX8_take 7 = .ok (.aload_n 0, 1) := by decide +kernel
theorem dX8_take_8 : decode cX8_take 8 = .ok (.iconst 0, 1) := by decide +kernel
theorem dX8_take_9 : decode cX8_take 9 = .ok (.putfield 111, 3) := by decide +kernel
theorem dX8_take_12 : decode cX8_take 12 = .ok (.bipush 99, 2) := by decide +kernel
theorem dX8_take_14 : decode cX8_take 14 = .ok (.ireturn, 1) := by decide +kernel
theorem dX8_take_15 : decode cX8_take 15 = .ok (.aload_n 0, 1) := by decide +kernel
theorem dX8_take_16 : decode cX8_take 16 = .ok (.dup, 1) := by decide +kernel
theorem dX8_take_17 : decode cX8_take 17 = .ok (.getfield 121, 3) := by decide +kernel
theorem dX8_take_20 : decode cX8_take 20 = .ok (.iconst 1, 1) := by decide +kernel
theorem dX8_take_21 : decode cX8_take 21 = .ok (.isub, 1) := by decide +kernel
theorem dX8_take_22 : decode cX8_take 22 = .ok (.putfield 121, 3) := by decide +kernel
theorem dX8_take_25 : decode cX8_take 25 = .ok (.aload_n 0, 1) := by decide +kernel
theorem dX8_take_26 : decode cX8_take 26 = .ok (.getfield 22, 3) := by decide +kernel
theorem dX8_take_29 : decode cX8_take 29 = .ok (.aload_n 0, 1) := by decide +kernel
theorem dX8_take_30 : decode cX8_take 30 = .ok (.getfield 75, 3) := by decide +kernel
theorem dX8_take_33 : decode cX8_take 33 = .ok (.aload_n 0, 1) := by decide +kernel
theorem dX8_take_34 : decode cX8_take 34 = .ok (.getfield 121, 3) := by decide +kernel
theorem dX8_take_37 : decode cX8_take 37 = .ok (.iadd, 1) := by decide +kernel
theorem dX8_take_38 : decode cX8_take 38 = .ok (.iaload, 1) := by decide +kernel
theorem dX8_take_39 : decode cX8_take 39 = .ok (.ireturn, 1) := by decide +kernel
def wp_X8_take : List Cond := .code yX8_take cX8_take 1 (some .int) :: ([.fieldLink RX8 121 "SteadyMachine$Verifier" "height" "I", .fieldLink RX8 22 "SteadyMachine$Verifier" "now" "[I", .fieldLink RX8 75 "SteadyMachine$Verifier" "locals" "I", .fieldLink RX8 111 "SteadyMachine$Verifier" "fits" "Z"] ++ wsX80)
theorem wq_X8_take : wp_X8_take.all goodWord = true := wa_c rfl (wa_a (by decide +kernel) uq_X8)
theorem wt_X8_take : GoodIn lw_tbl wp_X8_take := wm_c (List.mem_of_getElem? (i := 803) (by decide +kernel)) rfl (wm_a (goodIn_r _ [382, 381, 384, 386] (by decide +kernel) (by decide +kernel)) ut_X8)
theorem wi_X8_take_X8 : ∀ w ∈ wsX80, w ∈ wp_X8_take := fun w h => List.mem_cons_of_mem _ (List.mem_append_right _ h)
set_option maxHeartbeats 4000000 in
set_option maxRecDepth 100000 in
theorem c_X8_take (l : Launch) (D : va_G) (sz t0 : Nat) (σ : sm_S) (α : sm_A) (K : Int32 → sm_S → Prop) (hF : mp_X8_take σ K) : Met l yX8_take wp_X8_take { frames := 0, cells := 0, slots := 0, locals := 0 } (sm_P sm_wX sm_tX 37 D sz t0 σ α [.ref (α.1 8)]) (va_Qi K (sm_B sm_wX D α) (sm_a α 37 sz)) 0 0 (sm_a α 37 sz) := by
  refine Met.ofW (cc := cX8_take) (maxL := 1) (ret := (some .int)) (by decide) rfl ?_
  intro p e s m args below meth c s₁ B hml hv
  obtain ⟨rfl, hsz, hP, hK, hD0, hE⟩ := hv
  have hx := B.exec
  have hb := B.bytes
  have hr := B.returns
  have hts := atoms_spec (ws := wp_X8_take) B.pre
  have hown : s.vm.findClass RX8 = some m.cls := findClass_of_methodNamed B.named
  have hlocks := B.notSynchronized
  subst hsz
  have hD : sm_D (sm_a α 37 s.heap.size) α 37 := hD0.own
  have hA : ∀ q : Nat, s.heap.size ≤ q → sm_a α 37 s.heap.size q := fun q h => Or.inr h
  generalize hAe : sm_a α 37 s.heap.size = A at hD hA hE ⊢
  have hS : va_S A s.heap s.heap [] := va_S.rf
  have in_X8 : ∀ w ∈ wsX80, w ∈ wp_X8_take := wi_X8_take_X8
  have k_0 := hts (.fieldLink RX8 121 "SteadyMachine$Verifier" "height" "I") (by decide +kernel)
  have k_1 := hts (.fieldLink RX8 22 "SteadyMachine$Verifier" "now" "[I") (by decide +kernel)
  have k_2 := hts (.fieldLink RX8 75 "SteadyMachine$Verifier" "locals" "I") (by decide +kernel)
  have k_3 := hts (.fieldLink RX8 111 "SteadyMachine$Verifier" "fits" "Z") (by decide +kernel)
  have hl := lv_entry ([.ref (α.1 8)]) (n := 1) (Nat.le_of_ble_eq_true rfl)
  rw [lg_entry_eq]
  generalize (lg_sl ([.ref (α.1 8)]) ++ List.replicate (1 - (lg_sl ([.ref (α.1 8)])).length) Slot.unset).toArray = ls at hl ⊢
  have hl : lv_has ls 1 [(0, .ref (α.1 8))] := hl
  unfold mp_X8_take at hF
  revert hP hS
  generalize hLo : ([] : List Loc) = locs
  suffices h9 : ∀ (H : Heap) (locs : List Loc), va_P D vwCl (sm_wX σ α) H → va_S A s.heap H locs → W p l e (headSpec wp_X8_take { frames := 0, cells := 0, slots := 0, locals := 0 }).room s m ([.ref (α.1 8)] : List Value).toArray below meth c H locs 0 0 (MQ below (va_Qi K (sm_B sm_wX D α) A) ([.ref (α.1 8)] : List Value).toArray s 0 0 A) (F0 m 0 ls []) from fun hP hS => h9 s.heap locs hP hS
  intro H locs hP hS
  refine lv_aload_n hx hb dX8_take_0 rfl (lv_at hl 0 rfl) ?_
  refine va_get (D := D) (ci := 8) (v := .int (σ.1 29)) (C := RX8) (T := TX8) (N := 13) hx hb hts in_X8 hown hK hP 8 (sm_gX8 σ α) rfl 7 (by decide) k_0 (fun _ h9 => h9) rfl dX8_take_1 ?_
  refine lv_if_ne (tgt := 15) hx hb dX8_take_4 (by decide) (fun h1 => ?_) (fun h1 => ?_)
  · replace hF := hF.1 h1
    refine lv_aload_n hx hb dX8_take_15 rfl (lv_at hl 0 rfl) ?_
    refine lv_dup hx hb dX8_take_16 rfl ?_
    refine va_get (D := D) (ci := 8) (v := .int (σ.1 29)) (C := RX8) (T := TX8) (N := 13) hx hb hts in_X8 hown hK hP 8 (sm_gX8 σ α) rfl 7 (by decide) k_0 (fun _ h9 => h9) rfl dX8_take_17 ?_
    refine lv_iconst (v := 1) hx hb dX8_take_20 (by decide) ?_
    refine lv_isub hx hb dX8_take_21 ?_
    refine va_put (D := D) (ci := 8) (v := .int ((σ.1 29) - 1)) (ty := .int) (C := RX8) (T := TX8) (N := 13) hx hb hts in_X8 tyX8 tyX8_ok nmX8 hown hK hP (hD.to (sm_wX_m _ _)) hS 8 (sm_gX8 σ α) rfl 7 (by decide) k_0 (fun _ h9 => h9) rfl (by decide +kernel) rfl rfl (Nat.le_of_ble_eq_true rfl) dX8_take_22 (fun H locs hP _ hS => ?_)
    rw [sm_iX29] at hP
    obtain ⟨σ2, eσ2⟩ : ∃ x : sm_S, x = sm_i σ 29 ((σ.1 29) - 1) := ⟨_, rfl⟩
    replace hF := hF σ2 eσ2
    rw [← eσ2] at hP
    refine lv_aload_n hx hb dX8_take_25 rfl (lv_at hl 0 rfl) ?_
    refine va_get (D := D) (ci := 8) (v := .ref (α.1 35)) (C := RX8) (T := TX8) (N := 13) hx hb hts in_X8 hown hK hP 8 (sm_gX8 σ2 α) rfl 6 (by decide) k_1 (fun _ h9 => h9) rfl dX8_take_26 ?_
    refine lv_aload_n hx hb dX8_take_29 rfl (lv_at hl 0 rfl) ?_
    refine va_get (D := D) (ci := 8) (v := .int (σ2.1 31)) (C := RX8) (T := TX8) (N := 13) hx hb hts in_X8 hown hK hP 8 (sm_gX8 σ2 α) rfl 9 (by decide) k_2 (fun _ h9 => h9) rfl dX8_take_30 ?_
    refine lv_aload_n hx hb dX8_take_33 rfl (lv_at hl 0 rfl) ?_
    refine va_get (D := D) (ci := 8) (v := .int (σ2.1 29)) (C := RX8) (T := TX8) (N := 13) hx hb hts in_X8 hown hK hP 8 (sm_gX8 σ2 α) rfl 7 (by decide) k_0 (fun _ h9 => h9) rfl dX8_take_34 ?_
    refine lv_iadd hx hb dX8_take_37 ?_
    obtain ⟨h3, hF⟩ := hF
    refine va_iald (n := (σ2.2.2.1 35)) (f := (σ2.2.2.2.1 35)) hx hb hK hP 35 24 (sm_aX35 σ2 α) (sm_yX35 α) h3 dX8_take_38 ?_
    exact W.iret (v := ((σ2.2.2.2.1 35) ((σ2.1 31) + (σ2.1 29)).toNatClampNeg)) hx hb hr (fun t ht hW => ⟨⟨((σ2.2.2.2.1 35) ((σ2.1 31) + (σ2.1 29)).toNatClampNeg), σ2, rfl, hF, (by unfold sm_B; rw [ht]; exact hP)⟩, hS.F ht⟩) hS.2.2 dX8_take_39
  · replace hF := hF.2 h1
    refine lv_aload_n hx hb dX8_take_7 rfl (lv_at hl 0 rfl) ?_
    refine lv_iconst (v := 0) hx hb dX8_take_8 (by decide) ?_
    refine va_put (D := D) (ci := 8) (v := .int 0) (ty := .boolean) (C := RX8) (T := TX8) (N := 13) hx hb hts in_X8 tyX8 tyX8_ok nmX8 hown hK hP (hD.to (sm_wX_m _ _)) hS 8 (sm_gX8 σ α) rfl 11 (by decide) k_3 (fun _ h9 => h9) rfl (by decide +kernel) sm_z0.1 sm_z0.2 (Nat.le_of_ble_eq_true rfl) dX8_take_9 (fun H locs hP _ hS => ?_)
    rw [sm_iX33] at hP
    obtain ⟨σ4, eσ4⟩ : ∃ x : sm_S, x = sm_i σ 33 0 := ⟨_, rfl⟩
    replace hF := hF σ4 eσ4
    rw [← eσ4] at hP
    refine lv_bipush (v := 99) hx hb dX8_take_12 (by decide) ?_
    exact W.iret (v := 99) hx hb hr (fun t ht hW => ⟨⟨99, σ4, rfl, hF, (by unfold sm_B; rw [ht]; exact hP)⟩, hS.F ht⟩) hS.2.2 dX8_take_14
theorem dX8_takeFor_0 : decode cX8_takeFor 0 = .ok (.aload_n 0, 1) := by decide +kernel
theorem dX8_takeFor_1 : decode cX8_takeFor 1 = .ok (.invokevirtual 159, 3) := by decide +kernel
theorem dX8_takeFor_4 : decode cX8_takeFor 4 = .ok (.istore_n 2, 1) := by decide +kernel
theorem dX8_takeFor_5 : decode cX8_takeFor 5 = .ok (.iload_n 2, 1) := by decide +kernel
theorem dX8_takeFor_6 : decode cX8_takeFor 6 = .ok (.invokestatic 151, 3) := by decide +kernel
theorem dX8_takeFor_9 : decode cX8_takeFor 9 = .ok (.ifCond .eq 30, 3) := by decide +kernel
theorem dX8_takeFor_12 : decode cX8_takeFor 12 = .ok (.iload_n 1, 1) := by decide +kernel
theorem dX8_takeFor_13 : decode cX8_takeFor 13 = .ok (.invokestatic 151, 3) := by decide +kernel
theorem dX8_takeFor_16 : decode cX8_takeFor 16 = .ok (.ifCond .eq 23, 3) := by decide +kernel
theorem dX8_takeFor_19 : decode cX8_takeFor 19 = .ok (.aload_n 0, 1) := by decide +kernel
theorem dX8_takeFor_20 : decode cX8_takeFor 20 = .ok (.getfield 36, 3) := by decide +kernel
theorem dX8_takeFor_23 : decode cX8_takeFor 23 = .ok (.iload_n 2, 1) := by decide +kernel
theorem dX8_takeFor_24 : decode cX8_takeFor 24 = .ok (.iconst 1, 1) := by decide +kernel
theorem dX8_takeFor_25 : decode cX8_takeFor 25 = .ok (.isub, 1) := by decide +kernel
theorem dX8_takeFor_26 : decode cX8_takeFor 26 = .ok (.iload_n 1, 1) := by decide +kernel
theorem dX8_takeFor_27 : decode cX8_takeFor 27 = .ok (.iconst 1, 1) := by decide +kernel
theorem dX8_takeFor_28 : decode cX8_takeFor 28 = .ok (.isub, 1) := by decide +kernel
theorem dX8_takeFor_29 : decode cX8_takeFor 29 = .ok (.invokevirtual 162, 3) := by decide +kernel
theorem dX8_takeFor_32 : decode cX8_takeFor 32 = .ok (.ifCond .eq 7, 3) := by decide +kernel
theorem dX8_takeFor_35 : decode cX8_takeFor 35 = .ok (.iconst 1, 1) := by decide +kernel
theorem dX8_takeFor_36 : decode cX8_takeFor 36 = .ok (.goto 4, 3) := by decide +kernel
theorem dX8_takeFor_39 : decode cX8_takeFor 39 = .ok (.iconst 0, 1) := by decide +kernel
theorem dX8_takeFor_40 : decode cX8_takeFor 40 = .ok (.istore_n 3, 1) := by decide +kernel
theorem dX8_takeFor_41 : decode cX8_takeFor 41 = .ok (.iload_n 2, 1) := by decide +kernel
theorem dX8_takeFor_42 : decode cX8_takeFor 42 = .ok (.bipush 97, 2) := by decide +kernel
theorem dX8_takeFor_44 : decode cX8_takeFor 44 = .ok (.if_icmp .ne 17, 3) := by decide +kernel
theorem dX8_takeFor_47 : decode cX8_takeFor 47 = .ok (.iload_n 1, 1) := by decide +kernel
theorem dX8_takeFor_48 : decode cX8_takeFor 48 = .ok (.ifCond .eq 13, 3) := by decide +kernel
theorem dX8_takeFor_51 : decode cX8_takeFor 51 = .ok (.iload_n 1, 1) := by decide +kernel
theorem dX8_takeFor_52 : decode cX8_takeFor 52 = .ok (.bipush 98, 2) := by decide +kernel
theorem dX8_takeFor_54 : decode cX8_takeFor 54 = .ok (.if_icmp .eq 7, 3) := by decide +kernel
theorem dX8_takeFor_57 : decode cX8_takeFor 57 = .ok (.iconst 1, 1) := by decide +kernel
theorem dX8_takeFor_58 : decode cX8_takeFor 58 = .ok (.goto 4, 3) := by decide +kernel
theorem dX8_takeFor_61 : decode cX8_takeFor 61 = .ok (.iconst 0, 1) := by decide +kernel
theorem dX8_takeFor_62 : decode cX8_takeFor 62 = .ok (.istore 4, 2) := by decide +kernel
theorem dX8_takeFor_64 : decode cX8_takeFor 64 = .ok (.aload_n 0, 1) := by decide +kernel
theorem dX8_takeFor_65 : decode cX8_takeFor 65 = .ok (.aload_n 0, 1) := by decide +kernel
theorem dX8_takeFor_66 : decode cX8_takeFor 66 = .ok (.getfield 111, 3) := by decide +kernel
theorem dX8_takeFor_69 : decode cX8_takeFor 69 = .ok (.ifCond .eq 21, 3) := by decide +kernel
theorem dX8_takeFor_72 : decode cX8_takeFor 72 = .ok (.iload_n 2, 1) := by decide +kernel
theorem dX8_takeFor_73 : decode cX8_takeFor 73 = .ok (.iload_n 1, 1) := by decide +kernel
theorem dX8_takeFor_74 : decode cX8_takeFor 74 = .ok (.if_icmp .eq 12, 3) := by decide +kernel
theorem dX8_takeFor_77 : decode cX8_takeFor 77 = .ok (.iload 4, 2) := by decide +kernel
theorem dX8_takeFor_79 : decode cX8_takeFor 79 = .ok (.ifCond .ne 7, 3) := by decide +kernel
theorem dX8_takeFor_82 : decode cX8_takeFor 82 = .ok (.iload_n 3, 1) := by decide +kernel
theorem dX8_takeFor_83 : decode cX8_takeFor 83 = .ok (.ifCond .eq 7, 3) := by decide +kernel
theorem dX8_takeFor_86 : decode cX8_takeFor 86 = .ok (.iconst 1, 1) := by decide +kernel
theorem dX8_takeFor_87 : decode cX8_takeFor 87 = .ok (.goto 4, 3) := by decide +kernel
theorem dX8_takeFor_90 : decode cX8_takeFor 90 = .ok (.iconst 0, 1) := by decide +kernel
theorem dX8_takeFor_91 : decode cX8_takeFor 91 = .ok (.putfield 111, 3) := by decide +kernel
theorem dX8_takeFor_94 : decode cX8_takeFor 94 = .ok (.return_, 1) := by decide +kernel
def wp_X8_takeFor : List Cond := .code yX8_takeFor cX8_takeFor 5 none :: (((([.fieldLink RX8 111 "SteadyMachine$Verifier" "fits" "Z", .fieldLink RX8 36 "SteadyMachine$Verifier" "classes" "LSteadyMachine$Classes;"] ++ (wsV RX8 159 RX8 yX8_take wp_X8_take)) ++ (va_wsS RX8 151 yX8_isClass wp_X8_isClass)) ++ (wsV RX8 162 RX0 yX0_isOrBelow wp_X0_isOrBelow)) ++ wsX80)
theorem wq_X8_takeFor : wp_X8_takeFor.all goodWord = true := wa_c rfl (wa_a (wa_a (wa_a (wa_a (by decide +kernel) (wa_V wq_X8_take)) (wa_S wq_X8_isClass)) (wa_V wq_X0_isOrBelow)) uq_X8)
theorem wt_X8_takeFor : GoodIn lw_tbl wp_X8_takeFor := wm_c (List.mem_of_getElem? (i := 807) (by decide +kernel)) rfl (wm_a (wm_a (wm_a (wm_a (goodIn_r _ [386, 376] (by decide +kernel) (by decide +kernel)) (wm_a (goodIn_r _ [800, 802, 25, 142] (by decide +kernel) (by decide +kernel)) wt_X8_take)) (wm_a (goodIn_r _ [761, 762, 142] (by decide +kernel) (by decide +kernel)) wt_X8_isClass)) (wm_a (goodIn_r _ [808, 809, 810, 138] (by decide +kernel) (by decide +kernel)) wt_X0_isOrBelow)) ut_X8)
theorem wg_X8_takeFor_X8_take_159 : GoodIn wp_X8_takeFor (wsV RX8 159 RX8 yX8_take wp_X8_take) := goodIn_sub (fun w h => List.mem_cons_of_mem _ (List.mem_append_left _ (List.mem_append_left _ (List.mem_append_left _ (List.mem_append_right _ h))))) (wa_V wq_X8_take)
theorem wg_X8_takeFor_X8_isClass_151 : GoodIn wp_X8_takeFor (va_wsS RX8 151 yX8_isClass wp_X8_isClass) := goodIn_sub (fun w h => List.mem_cons_of_mem _ (List.mem_append_left _ (List.mem_append_left _ (List.mem_append_right _ h)))) (wa_S wq_X8_isClass)
theorem wg_X8_takeFor_X0_isOrBelow_162 : GoodIn wp_X8_takeFor (wsV RX8 162 RX0 yX0_isOrBelow wp_X0_isOrBelow) := goodIn_sub (fun w h => List.mem_cons_of_mem _ (List.mem_append_left _ (List.mem_append_right _ h))) (wa_V wq_X0_isOrBelow)
theorem wi_X8_takeFor_X8 : ∀ w ∈ wsX80, w ∈ wp_X8_takeFor := fun w h => List.mem_cons_of_mem _ (List.mem_append_right _ h)
set_option maxHeartbeats 4000000 in
set_option maxRecDepth 100000 in
theorem c_X8_takeFor (l : Launch) (D : va_G) (sz t0 : Nat) (σ : sm_S) (α : sm_A) (p1 : Int32) (K : sm_S → Prop) (hF : mp_X8_takeFor σ p1 K) : Met l yX8_takeFor wp_X8_takeFor { frames := 1, cells := 0, slots := 0, locals := 24 } (sm_P sm_wX sm_tX 37 D sz t0 σ α [.ref (α.1 8), .int p1]) (va_Qv K (sm_B sm_wX D α) (sm_a α 37 sz)) 0 0 (sm_a α 37 sz) := by
  refine Met.ofW (cc := cX8_takeFor) (maxL := 5) (ret := none) (by decide) rfl ?_
  intro p e s m args below meth c s₁ B hml hv
  obtain ⟨rfl, hsz, hP, hK, hD0, hE⟩ := hv
  have hx := B.exec
  have hb := B.bytes
  have hr := B.returns
  have hts := atoms_spec (ws := wp_X8_takeFor) B.pre
  have hown : s.vm.findClass RX8 = some m.cls := findClass_of_methodNamed B.named
  have hlocks := B.notSynchronized
  subst hsz
  have hD : sm_D (sm_a α 37 s.heap.size) α 37 := hD0.own
  have hA : ∀ q : Nat, s.heap.size ≤ q → sm_a α 37 s.heap.size q := fun q h => Or.inr h
  generalize hAe : sm_a α 37 s.heap.size = A at hD hA hE ⊢
  have hS : va_S A s.heap s.heap [] := va_S.rf
  have in_X8 : ∀ w ∈ wsX80, w ∈ wp_X8_takeFor := wi_X8_takeFor_X8
  have k_0 := hts (.fieldLink RX8 111 "SteadyMachine$Verifier" "fits" "Z") (by decide +kernel)
  have k_1 := hts (.fieldLink RX8 36 "SteadyMachine$Verifier" "classes" "LSteadyMachine$Classes;") (by decide +kernel)
  have hl := lv_entry ([.ref (α.1 8), .int p1]) (n := 5) (Nat.le_of_ble_eq_true rfl)
  rw [lg_entry_eq]
  generalize (lg_sl ([.ref (α.1 8), .int p1]) ++ List.replicate (5 - (lg_sl ([.ref (α.1 8), .int p1])).length) Slot.unset).toArray = ls at hl ⊢
  have hl : lv_has ls 5 [(0, .ref (α.1 8)), (1, .int p1)] := hl
  have B91 : ∀ (σ : sm_S) (y1 : Int32), mp_X8_takeFor_91 K σ y1 → sm_J p l e (headSpec wp_X8_takeFor { frames := 1, cells := 0, slots := 0, locals := 24 }).room s m ([.ref (α.1 8), .int p1] : List Value).toArray below meth c (MQ below (va_Qv K (sm_B sm_wX D α) A) ([.ref (α.1 8), .int p1] : List Value).toArray s 0 0 A) D A 5 (sm_wX σ α) 91 [] [.int y1, .ref (α.1 8)] := by
    intro σ y1 hF H locs ls hP hS hl
    unfold mp_X8_takeFor_91 at hF
    obtain ⟨h1, hF⟩ := hF
    refine va_put (D := D) (ci := 8) (v := .int y1) (ty := .boolean) (C := RX8) (T := TX8) (N := 13) hx hb hts in_X8 tyX8 tyX8_ok nmX8 hown hK hP (hD.to (sm_wX_m _ _)) hS 8 (sm_gX8 σ α) rfl 11 (by decide) k_0 (fun _ h9 => h9) rfl (by decide +kernel) h1.1 h1.2 (Nat.le_of_ble_eq_true rfl) dX8_takeFor_91 (fun H locs hP _ hS => ?_)
    rw [sm_iX33] at hP
    obtain ⟨σ2, eσ2⟩ : ∃ x : sm_S, x = sm_i σ 33 y1 := ⟨_, rfl⟩
    replace hF := hF σ2 eσ2
    rw [← eσ2] at hP
    exact W.vret hx hb hr (fun t ht hW => ⟨⟨σ2, rfl, hF, (by unfold sm_B; rw [ht]; exact hP)⟩, hS.F ht⟩) hS.2.2 dX8_takeFor_94
  have B90 : ∀ (σ : sm_S), mp_X8_takeFor_90 K σ → sm_J p l e (headSpec wp_X8_takeFor { frames := 1, cells := 0, slots := 0, locals := 24 }).room s m ([.ref (α.1 8), .int p1] : List Value).toArray below meth c (MQ below (va_Qv K (sm_B sm_wX D α) A) ([.ref (α.1 8), .int p1] : List Value).toArray s 0 0 A) D A 5 (sm_wX σ α) 90 [] [.ref (α.1 8)] := by
    intro σ hF H locs ls hP hS hl
    unfold mp_X8_takeFor_90 at hF
    refine lv_iconst (v := 0) hx hb dX8_takeFor_90 (by decide) ?_
    exact B91 σ 0 hF H locs ls hP hS (lv_sub hl [] rfl)
  have B86 : ∀ (σ : sm_S), mp_X8_takeFor_86 K σ → sm_J p l e (headSpec wp_X8_takeFor { frames := 1, cells := 0, slots := 0, locals := 24 }).room s m ([.ref (α.1 8), .int p1] : List Value).toArray below meth c (MQ below (va_Qv K (sm_B sm_wX D α) A) ([.ref (α.1 8), .int p1] : List Value).toArray s 0 0 A) D A 5 (sm_wX σ α) 86 [] [.ref (α.1 8)] := by
    intro σ hF H locs ls hP hS hl
    unfold mp_X8_takeFor_86 at hF
    refine lv_iconst (v := 1) hx hb dX8_takeFor_86 (by decide) ?_
    refine lv_goto (tgt := 91) hx hb dX8_takeFor_87 (by decide) ?_
    exact B91 σ 1 hF H locs ls hP hS (lv_sub hl [] rfl)
  have B62 : ∀ (σ : sm_S) (x1 : Int32) (x2 : Int32) (x3 : Int32) (y0 : Int32), mp_X8_takeFor_62 K σ x1 x2 x3 y0 → sm_J p l e (headSpec wp_X8_takeFor { frames := 1, cells := 0, slots := 0, locals := 24 }).room s m ([.ref (α.1 8), .int p1] : List Value).toArray below meth c (MQ below (va_Qv K (sm_B sm_wX D α) A) ([.ref (α.1 8), .int p1] : List Value).toArray s 0 0 A) D A 5 (sm_wX σ α) 62 [(0, .ref (α.1 8)), (1, .int x1), (2, .int x2), (3, .int x3)] [.int y0] := by
    intro σ x1 x2 x3 y0 hF H locs ls hP hS hl
    unfold mp_X8_takeFor_62 at hF
    refine lv_istore (lv' := [(4, .int y0), (0, .ref (α.1 8)), (1, .int x1), (2, .int x2), (3, .int x3)]) hx hb dX8_takeFor_62 hl (by decide) rfl (fun ls hl => ?_)
    refine lv_aload_n hx hb dX8_takeFor_64 rfl (lv_at hl 1 rfl) ?_
    refine lv_aload_n hx hb dX8_takeFor_65 rfl (lv_at hl 1 rfl) ?_
    refine va_get (D := D) (ci := 8) (v := .int (σ.1 33)) (C := RX8) (T := TX8) (N := 13) hx hb hts in_X8 hown hK hP 8 (sm_gX8 σ α) rfl 11 (by decide) k_0 (fun _ h9 => h9) rfl dX8_takeFor_66 ?_
    refine lv_if_eq (tgt := 90) hx hb dX8_takeFor_69 (by decide) (fun h3 => ?_) (fun h3 => ?_)
    · replace hF := hF.1 h3
      exact B90 σ hF H locs ls hP hS (lv_sub hl [] rfl)
    · replace hF := hF.2 h3
      refine lv_iload_n hx hb dX8_takeFor_72 rfl (lv_at hl 3 rfl) ?_
      refine lv_iload_n hx hb dX8_takeFor_73 rfl (lv_at hl 2 rfl) ?_
      refine lv_icmp_eq (tgt := 86) hx hb dX8_takeFor_74 (by decide) (fun h4 => ?_) (fun h4 => ?_)
      · replace hF := hF.1 h4
        exact B86 σ hF H locs ls hP hS (lv_sub hl [] rfl)
      · replace hF := hF.2 h4
        refine lv_iload hx hb dX8_takeFor_77 (lv_at hl 0 rfl) ?_
        refine lv_if_ne (tgt := 86) hx hb dX8_takeFor_79 (by decide) (fun h5 => ?_) (fun h5 => ?_)
        · replace hF := hF.1 h5
          exact B86 σ hF H locs ls hP hS (lv_sub hl [] rfl)
        · replace hF := hF.2 h5
          refine lv_iload_n hx hb dX8_takeFor_82 rfl (lv_at hl 4 rfl) ?_
          refine lv_if_eq (tgt := 90) hx hb dX8_takeFor_83 (by decide) (fun h6 => ?_) (fun h6 => ?_)
          · replace hF := hF.1 h6
            exact B90 σ hF H locs ls hP hS (lv_sub hl [] rfl)
          · replace hF := hF.2 h6
            exact B86 σ hF H locs ls hP hS (lv_sub hl [] rfl)
  have B61 : ∀ (σ : sm_S) (x1 : Int32) (x2 : Int32) (x3 : Int32), mp_X8_takeFor_61 K σ x1 x2 x3 → sm_J p l e (headSpec wp_X8_takeFor { frames := 1, cells := 0, slots := 0, locals := 24 }).room s m ([.ref (α.1 8), .int p1] : List Value).toArray below meth c (MQ below (va_Qv K (sm_B sm_wX D α) A) ([.ref (α.1 8), .int p1] : List Value).toArray s 0 0 A) D A 5 (sm_wX σ α) 61 [(0, .ref (α.1 8)), (1, .int x1), (2, .int x2), (3, .int x3)] [] := by
    intro σ x1 x2 x3 hF H locs ls hP hS hl
    unfold mp_X8_takeFor_61 at hF
    refine lv_iconst (v := 0) hx hb dX8_takeFor_61 (by decide) ?_
    exact B62 σ x1 x2 x3 0 hF H locs ls hP hS (lv_sub hl [0, 1, 2, 3] rfl)
  have B40 : ∀ (σ : sm_S) (x1 : Int32) (x2 : Int32) (y0 : Int32), mp_X8_takeFor_40 K σ x1 x2 y0 → sm_J p l e (headSpec wp_X8_takeFor { frames := 1, cells := 0, slots := 0, locals := 24 }).room s m ([.ref (α.1 8), .int p1] : List Value).toArray below meth c (MQ below (va_Qv K (sm_B sm_wX D α) A) ([.ref (α.1 8), .int p1] : List Value).toArray s 0 0 A) D A 5 (sm_wX σ α) 40 [(0, .ref (α.1 8)), (1, .int x1), (2, .int x2)] [.int y0] := by
    intro σ x1 x2 y0 hF H locs ls hP hS hl
    unfold mp_X8_takeFor_40 at hF
    refine lv_istore_n (lv' := [(3, .int y0), (0, .ref (α.1 8)), (1, .int x1), (2, .int x2)]) hx hb dX8_takeFor_40 rfl hl (by decide) rfl (fun ls hl => ?_)
    refine lv_iload_n hx hb dX8_takeFor_41 rfl (lv_at hl 3 rfl) ?_
    refine lv_bipush (v := 97) hx hb dX8_takeFor_42 (by decide) ?_
    refine lv_icmp_ne (tgt := 61) hx hb dX8_takeFor_44 (by decide) (fun h7 => ?_) (fun h7 => ?_)
    · replace hF := hF.1 h7
      exact B61 σ x1 x2 y0 hF H locs ls hP hS (lv_sub hl [1, 2, 3, 0] rfl)
    · replace hF := hF.2 h7
      refine lv_iload_n hx hb dX8_takeFor_47 rfl (lv_at hl 2 rfl) ?_
      refine lv_if_eq (tgt := 61) hx hb dX8_takeFor_48 (by decide) (fun h8 => ?_) (fun h8 => ?_)
      · replace hF := hF.1 h8
        exact B61 σ x1 x2 y0 hF H locs ls hP hS (lv_sub hl [1, 2, 3, 0] rfl)
      · replace hF := hF.2 h8
        refine lv_iload_n hx hb dX8_takeFor_51 rfl (lv_at hl 2 rfl) ?_
        refine lv_bipush (v := 98) hx hb dX8_takeFor_52 (by decide) ?_
        refine lv_icmp_eq (tgt := 61) hx hb dX8_takeFor_54 (by decide) (fun h9 => ?_) (fun h9 => ?_)
        · replace hF := hF.1 h9
          exact B61 σ x1 x2 y0 hF H locs ls hP hS (lv_sub hl [1, 2, 3, 0] rfl)
        · replace hF := hF.2 h9
          refine lv_iconst (v := 1) hx hb dX8_takeFor_57 (by decide) ?_
          refine lv_goto (tgt := 62) hx hb dX8_takeFor_58 (by decide) ?_
          exact B62 σ x1 x2 y0 1 hF H locs ls hP hS (lv_sub hl [1, 2, 3, 0] rfl)
  have B39 : ∀ (σ : sm_S) (x1 : Int32) (x2 : Int32), mp_X8_takeFor_39 K σ x1 x2 → sm_J p l e (headSpec wp_X8_takeFor { frames := 1, cells := 0, slots := 0, locals := 24 }).room s m ([.ref (α.1 8), .int p1] : List Value).toArray below meth c (MQ below (va_Qv K (sm_B sm_wX D α) A) ([.ref (α.1 8), .int p1] : List Value).toArray s 0 0 A) D A 5 (sm_wX σ α) 39 [(0, .ref (α.1 8)), (1, .int x1), (2, .int x2)] [] := by
    intro σ x1 x2 hF H locs ls hP hS hl
    unfold mp_X8_takeFor_39 at hF
    refine lv_iconst (v := 0) hx hb dX8_takeFor_39 (by decide) ?_
    exact B40 σ x1 x2 0 hF H locs ls hP hS (lv_sub hl [0, 1, 2] rfl)
  unfold mp_X8_takeFor at hF
  revert hP hS
  generalize hLo : ([] : List Loc) = locs
  suffices h9 : ∀ (H : Heap) (locs : List Loc), va_P D vwCl (sm_wX σ α) H → va_S A s.heap H locs → W p l e (headSpec wp_X8_takeFor { frames := 1, cells := 0, slots := 0, locals := 24 }).room s m ([.ref (α.1 8), .int p1] : List Value).toArray below meth c H locs 0 0 (MQ below (va_Qv K (sm_B sm_wX D α) A) ([.ref (α.1 8), .int p1] : List Value).toArray s 0 0 A) (F0 m 0 ls []) from fun hP hS => h9 s.heap locs hP hS
  intro H locs hP hS
  refine lv_aload_n hx hb dX8_takeFor_0 rfl (lv_at hl 0 rfl) ?_
  refine sm_vi (As := []) (rest := []) hP hK hD hE hS hA ⟨hx, hb, hml, hown, hts⟩ hl.1 (c_X8_take l D H.size t0 σ α _ hF) (cwV 0 hts wg_X8_takeFor_X8_take_159 rfl rfl rfl (by decide +kernel) ⟨Nat.le_of_ble_eq_true rfl, Nat.le_of_ble_eq_true rfl⟩) (va_recv hK hP (ci := 8) (q0 := 8) rfl (sm_gX8 σ α)) rfl rfl (Nat.le_of_ble_eq_true rfl) dX8_takeFor_1 ⟨Nat.zero_le _, Nat.zero_le _⟩ (fun r11 σ10 H locs hF hP hS => ?_)
  refine lv_istore_n (lv' := [(2, .int r11), (0, .ref (α.1 8)), (1, .int p1)]) hx hb dX8_takeFor_4 rfl hl (by decide) rfl (fun ls hl => ?_)
  refine lv_iload_n hx hb dX8_takeFor_5 rfl (lv_at hl 0 rfl) ?_
  refine sm_si (As := [.int r11]) (rest := []) hP hK hD hE hS hA ⟨hx, hb, hml, hown, hts⟩ hl.1 (c_X8_isClass l D H.size t0 σ10 α r11 _ hF) (va_cwS 1 hts wg_X8_takeFor_X8_isClass_151 rfl rfl rfl (by decide +kernel) ⟨Nat.le_of_ble_eq_true rfl, Nat.le_of_ble_eq_true rfl⟩) rfl rfl (Nat.le_of_ble_eq_true rfl) dX8_takeFor_6 ⟨Nat.zero_le _, Nat.zero_le _⟩ (fun r13 σ12 H locs hF hP hS => ?_)
  refine lv_if_eq (tgt := 39) hx hb dX8_takeFor_9 (by decide) (fun h14 => ?_) (fun h14 => ?_)
  · replace hF := hF.1 h14
    exact B39 σ12 p1 r11 hF H locs ls hP hS (lv_sub hl [1, 2, 0] rfl)
  · replace hF := hF.2 h14
    refine lv_iload_n hx hb dX8_takeFor_12 rfl (lv_at hl 2 rfl) ?_
    refine sm_si (As := [.int p1]) (rest := []) hP hK hD hE hS hA ⟨hx, hb, hml, hown, hts⟩ hl.1 (c_X8_isClass l D H.size t0 σ12 α p1 _ hF) (va_cwS 1 hts wg_X8_takeFor_X8_isClass_151 rfl rfl rfl (by decide +kernel) ⟨Nat.le_of_ble_eq_true rfl, Nat.le_of_ble_eq_true rfl⟩) rfl rfl (Nat.le_of_ble_eq_true rfl) dX8_takeFor_13 ⟨Nat.zero_le _, Nat.zero_le _⟩ (fun r16 σ15 H locs hF hP hS => ?_)
    refine lv_if_eq (tgt := 39) hx hb dX8_takeFor_16 (by decide) (fun h17 => ?_) (fun h17 => ?_)
    · replace hF := hF.1 h17
      exact B39 σ15 p1 r11 hF H locs ls hP hS (lv_sub hl [1, 2, 0] rfl)
    · replace hF := hF.2 h17
      refine lv_aload_n hx hb dX8_takeFor_19 rfl (lv_at hl 1 rfl) ?_
      refine va_get (D := D) (ci := 8) (v := .ref (α.1 0)) (C := RX8) (T := TX8) (N := 13) hx hb hts in_X8 hown hK hP 8 (sm_gX8 σ15 α) rfl 1 (by decide) k_1 (fun _ h9 => h9) rfl dX8_takeFor_20 ?_
      refine lv_iload_n hx hb dX8_takeFor_23 rfl (lv_at hl 0 rfl) ?_
      refine lv_iconst (v := 1) hx hb dX8_takeFor_24 (by decide) ?_
      refine lv_isub hx hb dX8_takeFor_25 ?_
      refine lv_iload_n hx hb dX8_takeFor_26 rfl (lv_at hl 2 rfl) ?_
      refine lv_iconst (v := 1) hx hb dX8_takeFor_27 (by decide) ?_
      refine lv_isub hx hb dX8_takeFor_28 ?_
      refine sm_vi (As := [.int (r11 - 1), .int (p1 - 1)]) (rest := []) hP hK hD hE hS hA ⟨hx, hb, hml, hown, hts⟩ hl.1 (c_X0_isOrBelow l D H.size t0 σ15 α (r11 - 1) (p1 - 1) _ hF) (cwV 2 hts wg_X8_takeFor_X0_isOrBelow_162 rfl rfl rfl (by decide +kernel) ⟨Nat.le_of_ble_eq_true rfl, Nat.le_of_ble_eq_true rfl⟩) (va_recv hK hP (ci := 0) (q0 := 0) rfl (sm_gX0 σ15 α)) rfl rfl (Nat.le_of_ble_eq_true rfl) dX8_takeFor_29 ⟨Nat.zero_le _, Nat.zero_le _⟩ (fun r19 σ18 H locs hF hP hS => ?_)
      refine lv_if_eq (tgt := 39) hx hb dX8_takeFor_32 (by decide) (fun h20 => ?_) (fun h20 => ?_)
      · replace hF := hF.1 h20
        exact B39 σ18 p1 r11 hF H locs ls hP hS (lv_sub hl [1, 2, 0] rfl)
      · replace hF := hF.2 h20
        refine lv_iconst (v := 1) hx hb dX8_takeFor_35 (by decide) ?_
        refine lv_goto (tgt := 40) hx hb dX8_takeFor_36 (by decide) ?_
        exact B40 σ18 p1 r11 1 hF H locs ls hP hS (lv_sub hl [1, 2, 0] rfl)
theorem dX8_applyCall_0 : decode cX8_applyCall 0 = .ok (.aload_n 0, 1) := by decide +kernel
theorem dX8_applyCall_1 : decode cX8_applyCall 1 = .ok (.getfield 41, 3) := by decide +kernel
theorem dX8_applyCall_4 : decode cX8_applyCall 4 = .ok (.getfield 77, 3) := by decide +kernel
theorem dX8_applyCall_7 : decode cX8_applyCall 7 = .ok (.iload_n 1, 1) := by decide +kernel
theorem dX8_applyCall_8 : decode cX8_applyCall 8 = .ok (.iaload, 1) := by decide +kernel
theorem dX8_applyCall_9 : decode cX8_applyCall 9 = .ok (.iconst 1, 1) := by decide +kernel
theorem dX8_applyCall_10 : decode cX8_applyCall 10 = .ok (.isub, 1) := by decide +kernel
theorem dX8_applyCall_11 : decode cX8_applyCall 11 = .ok (.istore_n 3, 1) := by decide +kernel
theorem dX8_applyCall_12 : decode cX8_applyCall 12 = .ok (.iload_n 3, 1) := by decide +kernel
theorem dX8_applyCall_13 : decode cX8_applyCall 13 = .ok (.ifCond .lt 42, 3) := by decide +kernel
theorem dX8_applyCall_16 : decode cX8_applyCall 16 = .ok (.aload_n 0, 1) := by decide +kernel
theorem dX8_applyCall_17 : decode cX8_applyCall 17 = .ok (.iload_n 3, 1) := by decide +kernel
theorem dX8_applyCall_18 : decode cX8_applyCall 18 = .ok (.ifCond .ne 14, 3) := by decide +kernel
theorem dX8_applyCall_21 : decode cX8_applyCall 21 = .ok (.iload_n 2, 1) := by decide +kernel
theorem dX8_applyCall_22 : decode cX8_applyCall 22 = .ok (.iconst (-1), 1) := by decide +kernel
theorem dX8_applyCall_23 : decode cX8_applyCall 23 = .ok (.if_icmp .eq 9, 3) := by decide +kernel
theorem dX8_applyCall_26 : decode cX8_applyCall 26 = .ok (.iload_n 2, 1) := by decide +kernel
theorem dX8_applyCall_27 : decode cX8_applyCall 27 = .ok (.iconst 1, 1) := by decide +kernel
theorem dX8_applyCall_28 : decode cX8_applyCall 28 = .ok (.iadd, 1) := by decide +kernel
theorem dX8_applyCall_29 : decode cX8_applyCall 29 = .ok (.goto 17, 3) := by decide +kernel
theorem dX8_applyCall_32 : decode cX8_applyCall 32 = .ok (.aload_n 0, 1) := by decide +kernel
theorem dX8_applyCall_33 : decode cX8_applyCall 33 = .ok (.getfield 41, 3) := by decide +kernel
theorem dX8_applyCall_36 : decode cX8_applyCall 36 = .ok (.getfield 80, 3) := by decide +kernel
theorem dX8_applyCall_39 : decode cX8_applyCall 39 = .ok (.iload_n 1, 1) := by decide +kernel
theorem dX8_applyCall_40 : decode cX8_applyCall 40 = .ok (.bipush 8, 2) := by decide +kernel
theorem dX8_applyCall_42 : decode cX8_applyCall 42 = .ok (.imul, 1) := by decide +kernel
theorem dX8_applyCall_43 : decode cX8_applyCall 43 = .ok (.iload_n 3, 1) := by decide +kernel
theorem dX8_applyCall_44 : decode cX8_applyCall 44 = .ok (.iadd, 1) := by decide +kernel
theorem dX8_applyCall_45 : decode cX8_applyCall 45 = .ok (.iaload, 1) := by decide +kernel
theorem dX8_applyCall_46 : decode cX8_applyCall 46 = .ok (.invokevirtual 168, 3) := by decide +kernel
theorem dX8_applyCall_49 : decode cX8_applyCall 49 = .ok (.iinc 3 (-1), 3) := by decide +kernel
theorem dX8_applyCall_52 : decode cX8_applyCall 52 = .ok (.goto (-40), 3) := by decide +kernel
theorem dX8_applyCall_55 : decode cX8_applyCall 55 = .ok (.aload_n 0, 1) := by decide +kernel
theorem dX8_applyCall_56 : decode cX8_applyCall 56 = .ok (.getfield 41, 3) := by decide +kernel
theorem dX8_applyCall_59 : decode cX8_applyCall 59 = .ok (.getfield 205, 3) := by decide +kernel
theorem dX8_applyCall_62 : decode cX8_applyCall 62 = .ok (.iload_n 1, 1) := by decide +kernel
theorem dX8_applyCall_63 : decode cX8_applyCall 63 = .ok (.iaload, 1) := by decide +kernel
theorem dX8_applyCall_64 : decode cX8_applyCall 64 = .ok (.sipush 255, 3) := by decide +kernel
theorem dX8_applyCall_67 : decode cX8_applyCall 67 = .ok (.if_icmp .eq 16, 3) := by decide +kernel
theorem dX8_applyCall_70 : decode cX8_applyCall 70 = .ok (.aload_n 0, 1) := by decide +kernel
theorem dX8_applyCall_71 : decode cX8_applyCall 71 = .ok (.aload_n 0, 1) := by decide +kernel
theorem dX8_applyCall_72 : decode cX8_applyCall 72 = .ok (.getfield 41, 3) := by decide +kernel
theorem dX8_applyCall_75 : decode cX8_applyCall 75 = .ok (.getfield 205, 3) := by decide +kernel
theorem dX8_applyCall_78 : decode cX8_applyCall 78 = .ok (.iload_n 1, 1) := by decide +kernel
theorem dX8_applyCall_79 : decode cX8_applyCall 79 = .ok (.iaload, 1) := by decide +kernel
theorem dX8_applyCall_80 : decode cX8_applyCall 80 = .ok (.invokevirtual 171, 3) := by decide +kernel
theorem dX8_applyCall_83 : decode cX8_applyCall 83 = .ok (.return_, 1) := by decide +kernel
def wp_X8_applyCall : List Cond := .code yX8_applyCall cX8_applyCall 4 none :: (((([.fieldLink RX8 41 "SteadyMachine$Verifier" "methods" "LSteadyMachine$Methods;", .fieldLink RX8 80 "SteadyMachine$Methods" "paramType" "[I", .fieldLink RX8 205 "SteadyMachine$Methods" "gives" "[I", .fieldLink RX8 77 "SteadyMachine$Methods" "params" "[I"] ++ (wsV RX8 168 RX8 yX8_takeFor wp_X8_takeFor)) ++ (wsV RX8 171 RX8 yX8_push wp_X8_push)) ++ wsX40) ++ wsX80)
theorem wq_X8_applyCall : wp_X8_applyCall.all goodWord = true := wa_c rfl (wa_a (wa_a (wa_a (wa_a (by decide +kernel) (wa_V wq_X8_takeFor)) (wa_V wq_X8_push)) uq_X4) uq_X8)
theorem wt_X8_applyCall : GoodIn lw_tbl wp_X8_applyCall := wm_c (List.mem_of_getElem? (i := 839) (by decide +kernel)) rfl (wm_a (wm_a (wm_a (wm_a (goodIn_r _ [377, 234, 237, 230] (by decide +kernel) (by decide +kernel)) (wm_a (goodIn_r _ [804, 806, 26, 142] (by decide +kernel) (by decide +kernel)) wt_X8_takeFor)) (wm_a (goodIn_r _ [796, 798, 24, 142] (by decide +kernel) (by decide +kernel)) wt_X8_push)) ut_X4) ut_X8)
theorem wg_X8_applyCall_X8_takeFor_168 : GoodIn wp_X8_applyCall (wsV RX8 168 RX8 yX8_takeFor wp_X8_takeFor) := goodIn_sub (fun w h => List.mem_cons_of_mem _ (List.mem_append_left _ (List.mem_append_left _ (List.mem_append_left _ (List.mem_append_right _ h))))) (wa_V wq_X8_takeFor)
theorem wg_X8_applyCall_X8_push_171 : GoodIn wp_X8_applyCall (wsV RX8 171 RX8 yX8_push wp_X8_push) := goodIn_sub (fun w h => List.mem_cons_of_mem _ (List.mem_append_left _ (List.mem_append_left _ (List.mem_append_right _ h)))) (wa_V wq_X8_push)
theorem wi_X8_applyCall_X4 : ∀ w ∈ wsX40, w ∈ wp_X8_applyCall := fun w h => List.mem_cons_of_mem _ (List.mem_append_left _ (List.mem_append_right _ h))
theorem wi_X8_applyCall_X8 : ∀ w ∈ wsX80, w ∈ wp_X8_applyCall := fun w h => List.mem_cons_of_mem _ (List.mem_append_right _ h)
set_option maxHeartbeats 4000000 in
set_option maxRecDepth 100000 in
theorem c_X8_applyCall (l : Launch) (D : va_G) (sz t0 : Nat) (σ : sm_S) (α : sm_A) (p1 : Int32) (p2 : Int32) (K : sm_S → Prop) (hF : mp_X8_applyCall σ p1 p2 K) : Met l yX8_applyCall wp_X8_applyCall { frames := 2, cells := 0, slots := 0, locals := 48 } (sm_P sm_wX sm_tX 37 D sz t0 σ α [.ref (α.1 8), .int p1, .int p2]) (va_Qv K (sm_B sm_wX D α) (sm_a α 37 sz)) 0 0 (sm_a α 37 sz) := by
  refine Met.ofW (cc := cX8_applyCall) (maxL := 4) (ret := none) (by decide) rfl ?_
  intro p e s m args below meth c s₁ B hml hv
  obtain ⟨rfl, hsz, hP, hK, hD0, hE⟩ := hv
  have hx := B.exec
  have hb := B.bytes
  have hr := B.returns
  have hts := atoms_spec (ws := wp_X8_applyCall) B.pre
  have hown : s.vm.findClass RX8 = some m.cls := findClass_of_methodNamed B.named
  have hlocks := B.notSynchronized
  subst hsz
  have hD : sm_D (sm_a α 37 s.heap.size) α 37 := hD0.own
  have hA : ∀ q : Nat, s.heap.size ≤ q → sm_a α 37 s.heap.size q := fun q h => Or.inr h
  generalize hAe : sm_a α 37 s.heap.size = A at hD hA hE ⊢
  have hS : va_S A s.heap s.heap [] := va_S.rf
  have in_X4 : ∀ w ∈ wsX40, w ∈ wp_X8_applyCall := wi_X8_applyCall_X4
  have in_X8 : ∀ w ∈ wsX80, w ∈ wp_X8_applyCall := wi_X8_applyCall_X8
  have k_0 := hts (.fieldLink RX8 41 "SteadyMachine$Verifier" "methods" "LSteadyMachine$Methods;") (by decide +kernel)
  have k_1 := hts (.fieldLink RX8 80 "SteadyMachine$Methods" "paramType" "[I") (by decide +kernel)
  have k_2 := hts (.fieldLink RX8 205 "SteadyMachine$Methods" "gives" "[I") (by decide +kernel)
  have k_3 := hts (.fieldLink RX8 77 "SteadyMachine$Methods" "params" "[I") (by decide +kernel)
  have hl := lv_entry ([.ref (α.1 8), .int p1, .int p2]) (n := 4) (Nat.le_of_ble_eq_true rfl)
  rw [lg_entry_eq]
  generalize (lg_sl ([.ref (α.1 8), .int p1, .int p2]) ++ List.replicate (4 - (lg_sl ([.ref (α.1 8), .int p1, .int p2])).length) Slot.unset).toArray = ls at hl ⊢
  have hl : lv_has ls 4 [(0, .ref (α.1 8)), (1, .int p1), (2, .int p2)] := hl
  have B83 : ∀ (σ : sm_S), mp_X8_applyCall_83 K σ → sm_J p l e (headSpec wp_X8_applyCall { frames := 2, cells := 0, slots := 0, locals := 48 }).room s m ([.ref (α.1 8), .int p1, .int p2] : List Value).toArray below meth c (MQ below (va_Qv K (sm_B sm_wX D α) A) ([.ref (α.1 8), .int p1, .int p2] : List Value).toArray s 0 0 A) D A 4 (sm_wX σ α) 83 [] [] := by
    intro σ hF H locs ls hP hS hl
    unfold mp_X8_applyCall_83 at hF
    exact W.vret hx hb hr (fun t ht hW => ⟨⟨σ, rfl, hF, (by unfold sm_B; rw [ht]; exact hP)⟩, hS.F ht⟩) hS.2.2 dX8_applyCall_83
  have B46 : ∀ (L12 : sm_S → Int32 → Int32 → Int32 → Prop) (hL12 : ∀ (σ : sm_S) (x1 : Int32) (x2 : Int32) (x3 : Int32), L12 σ x1 x2 x3 → sm_J p l e (headSpec wp_X8_applyCall { frames := 2, cells := 0, slots := 0, locals := 48 }).room s m ([.ref (α.1 8), .int p1, .int p2] : List Value).toArray below meth c (MQ below (va_Qv K (sm_B sm_wX D α) A) ([.ref (α.1 8), .int p1, .int p2] : List Value).toArray s 0 0 A) D A 4 (sm_wX σ α) 12 [(0, .ref (α.1 8)), (1, .int x1), (2, .int x2), (3, .int x3)] []) (σ : sm_S) (x1 : Int32) (x2 : Int32) (x3 : Int32) (y1 : Int32), mp_X8_applyCall_46 L12 K σ x1 x2 x3 y1 → sm_J p l e (headSpec wp_X8_applyCall { frames := 2, cells := 0, slots := 0, locals := 48 }).room s m ([.ref (α.1 8), .int p1, .int p2] : List Value).toArray below meth c (MQ below (va_Qv K (sm_B sm_wX D α) A) ([.ref (α.1 8), .int p1, .int p2] : List Value).toArray s 0 0 A) D A 4 (sm_wX σ α) 46 [(0, .ref (α.1 8)), (1, .int x1), (2, .int x2), (3, .int x3)] [.int y1, .ref (α.1 8)] := by
    intro L12 hL12 σ x1 x2 x3 y1 hF H locs ls hP hS hl
    unfold mp_X8_applyCall_46 at hF
    refine sm_vv (As := [.int y1]) (rest := []) hP hK hD hE hS hA ⟨hx, hb, hml, hown, hts⟩ hl.1 (c_X8_takeFor l D H.size t0 σ α y1 _ hF) (cwV 1 hts wg_X8_applyCall_X8_takeFor_168 rfl rfl rfl (by decide +kernel) ⟨Nat.le_of_ble_eq_true rfl, Nat.le_of_ble_eq_true rfl⟩) (va_recv hK hP (ci := 8) (q0 := 8) rfl (sm_gX8 σ α)) rfl rfl (Nat.le_of_ble_eq_true rfl) dX8_applyCall_46 ⟨Nat.zero_le _, Nat.zero_le _⟩ (fun σ1 H locs hF hP hS => ?_)
    obtain ⟨v2, ev2⟩ : ∃ y : Int32, y = x3 + (-1) := ⟨_, rfl⟩
    replace hF := hF v2 ev2
    refine lv_iinc (v := v2) (lv' := [(3, .int v2), (0, .ref (α.1 8)), (1, .int x1), (2, .int x2)]) hx hb dX8_applyCall_49 hl (k := 3) rfl (by rw [ev2]; rfl) (by decide) rfl (fun ls hl => ?_)
    refine lv_goto (tgt := 12) hx hb dX8_applyCall_52 (by decide) ?_
    exact hL12 σ1 x1 x2 v2 hF H locs ls hP hS (lv_sub hl [1, 2, 3, 0] rfl)
  have B32 : ∀ (L12 : sm_S → Int32 → Int32 → Int32 → Prop) (hL12 : ∀ (σ : sm_S) (x1 : Int32) (x2 : Int32) (x3 : Int32), L12 σ x1 x2 x3 → sm_J p l e (headSpec wp_X8_applyCall { frames := 2, cells := 0, slots := 0, locals := 48 }).room s m ([.ref (α.1 8), .int p1, .int p2] : List Value).toArray below meth c (MQ below (va_Qv K (sm_B sm_wX D α) A) ([.ref (α.1 8), .int p1, .int p2] : List Value).toArray s 0 0 A) D A 4 (sm_wX σ α) 12 [(0, .ref (α.1 8)), (1, .int x1), (2, .int x2), (3, .int x3)] []) (σ : sm_S) (x1 : Int32) (x2 : Int32) (x3 : Int32), mp_X8_applyCall_32 L12 K σ x1 x2 x3 → sm_J p l e (headSpec wp_X8_applyCall { frames := 2, cells := 0, slots := 0, locals := 48 }).room s m ([.ref (α.1 8), .int p1, .int p2] : List Value).toArray below meth c (MQ below (va_Qv K (sm_B sm_wX D α) A) ([.ref (α.1 8), .int p1, .int p2] : List Value).toArray s 0 0 A) D A 4 (sm_wX σ α) 32 [(0, .ref (α.1 8)), (1, .int x1), (2, .int x2), (3, .int x3)] [.ref (α.1 8)] := by
    intro L12 hL12 σ x1 x2 x3 hF H locs ls hP hS hl
    unfold mp_X8_applyCall_32 at hF
    refine lv_aload_n hx hb dX8_applyCall_32 rfl (lv_at hl 0 rfl) ?_
    refine va_get (D := D) (ci := 8) (v := .ref (α.1 4)) (C := RX8) (T := TX8) (N := 13) hx hb hts in_X8 hown hK hP 8 (sm_gX8 σ α) rfl 2 (by decide) k_0 (fun _ h9 => h9) rfl dX8_applyCall_33 ?_
    refine va_get (D := D) (ci := 4) (v := .ref (α.1 22)) (C := RX4) (T := TX4) (N := 12) hx hb hts in_X4 hown hK hP 4 (sm_gX4 σ α) rfl 4 (by decide) k_1 (fun _ h9 => h9) rfl dX8_applyCall_36 ?_
    refine lv_iload_n hx hb dX8_applyCall_39 rfl (lv_at hl 1 rfl) ?_
    refine lv_bipush (v := 8) hx hb dX8_applyCall_40 (by decide) ?_
    refine lv_imul hx hb dX8_applyCall_42 ?_
    refine lv_iload_n hx hb dX8_applyCall_43 rfl (lv_at hl 3 rfl) ?_
    refine lv_iadd hx hb dX8_applyCall_44 ?_
    obtain ⟨h3, hF⟩ := hF
    refine va_iald (n := (σ.2.2.1 22)) (f := (σ.2.2.2.1 22)) hx hb hK hP 22 11 (sm_aX22 σ α) (sm_yX22 α) h3 dX8_applyCall_45 ?_
    exact B46 L12 hL12 σ x1 x2 x3 ((σ.2.2.2.1 22) ((x1 * 8) + x3).toNatClampNeg) hF H locs ls hP hS (lv_sub hl [0, 1, 2, 3] rfl)
  have B12 : ∀ (n : Nat) (σ : sm_S) (x1 : Int32) (x2 : Int32) (x3 : Int32), mp_X8_applyCall_12 K n σ x1 x2 x3 → sm_J p l e (headSpec wp_X8_applyCall { frames := 2, cells := 0, slots := 0, locals := 48 }).room s m ([.ref (α.1 8), .int p1, .int p2] : List Value).toArray below meth c (MQ below (va_Qv K (sm_B sm_wX D α) A) ([.ref (α.1 8), .int p1, .int p2] : List Value).toArray s 0 0 A) D A 4 (sm_wX σ α) 12 [(0, .ref (α.1 8)), (1, .int x1), (2, .int x2), (3, .int x3)] [] := by
    intro n12
    induction n12 with
    | zero =>
      intro σ x1 x2 x3 hF
      exact hF.elim
    | succ n12 ih12 =>
      intro σ x1 x2 x3 hF H locs ls hP hS hl
      unfold mp_X8_applyCall_12 at hF
      refine lv_iload_n hx hb dX8_applyCall_12 rfl (lv_at hl 3 rfl) ?_
      refine lv_if_lt (tgt := 55) hx hb dX8_applyCall_13 (by decide) (fun h4 => ?_) (fun h4 => ?_)
      · replace hF := hF.1 h4
        refine lv_aload_n hx hb dX8_applyCall_55 rfl (lv_at hl 0 rfl) ?_
        refine va_get (D := D) (ci := 8) (v := .ref (α.1 4)) (C := RX8) (T := TX8) (N := 13) hx hb hts in_X8 hown hK hP 8 (sm_gX8 σ α) rfl 2 (by decide) k_0 (fun _ h9 => h9) rfl dX8_applyCall_56 ?_
        refine va_get (D := D) (ci := 4) (v := .ref (α.1 23)) (C := RX4) (T := TX4) (N := 12) hx hb hts in_X4 hown hK hP 4 (sm_gX4 σ α) rfl 5 (by decide) k_2 (fun _ h9 => h9) rfl dX8_applyCall_59 ?_
        refine lv_iload_n hx hb dX8_applyCall_62 rfl (lv_at hl 1 rfl) ?_
        obtain ⟨h5, hF⟩ := hF
        refine va_iald (n := (σ.2.2.1 23)) (f := (σ.2.2.2.1 23)) hx hb hK hP 23 12 (sm_aX23 σ α) (sm_yX23 α) h5 dX8_applyCall_63 ?_
        refine lv_sipush (v := 255) hx hb dX8_applyCall_64 (by decide) ?_
        refine lv_icmp_eq (tgt := 83) hx hb dX8_applyCall_67 (by decide) (fun h6 => ?_) (fun h6 => ?_)
        · replace hF := hF.1 h6
          exact B83 σ hF H locs ls hP hS (lv_sub hl [] rfl)
        · replace hF := hF.2 h6
          refine lv_aload_n hx hb dX8_applyCall_70 rfl (lv_at hl 0 rfl) ?_
          refine lv_aload_n hx hb dX8_applyCall_71 rfl (lv_at hl 0 rfl) ?_
          refine va_get (D := D) (ci := 8) (v := .ref (α.1 4)) (C := RX8) (T := TX8) (N := 13) hx hb hts in_X8 hown hK hP 8 (sm_gX8 σ α) rfl 2 (by decide) k_0 (fun _ h9 => h9) rfl dX8_applyCall_72 ?_
          refine va_get (D := D) (ci := 4) (v := .ref (α.1 23)) (C := RX4) (T := TX4) (N := 12) hx hb hts in_X4 hown hK hP 4 (sm_gX4 σ α) rfl 5 (by decide) k_2 (fun _ h9 => h9) rfl dX8_applyCall_75 ?_
          refine lv_iload_n hx hb dX8_applyCall_78 rfl (lv_at hl 1 rfl) ?_
          obtain ⟨h7, hF⟩ := hF
          refine va_iald (n := (σ.2.2.1 23)) (f := (σ.2.2.2.1 23)) hx hb hK hP 23 12 (sm_aX23 σ α) (sm_yX23 α) h7 dX8_applyCall_79 ?_
          refine sm_vv (As := [.int ((σ.2.2.2.1 23) x1.toNatClampNeg)]) (rest := []) hP hK hD hE hS hA ⟨hx, hb, hml, hown, hts⟩ hl.1 (c_X8_push l D H.size t0 σ α ((σ.2.2.2.1 23) x1.toNatClampNeg) _ hF) (cwV 1 hts wg_X8_applyCall_X8_push_171 rfl rfl rfl (by decide +kernel) ⟨Nat.le_of_ble_eq_true rfl, Nat.le_of_ble_eq_true rfl⟩) (va_recv hK hP (ci := 8) (q0 := 8) rfl (sm_gX8 σ α)) rfl rfl (Nat.le_of_ble_eq_true rfl) dX8_applyCall_80 ⟨Nat.zero_le _, Nat.zero_le _⟩ (fun σ8 H locs hF hP hS => ?_)
          exact B83 σ8 hF H locs ls hP hS (lv_sub hl [] rfl)
      · replace hF := hF.2 h4
        refine lv_aload_n hx hb dX8_applyCall_16 rfl (lv_at hl 0 rfl) ?_
        refine lv_iload_n hx hb dX8_applyCall_17 rfl (lv_at hl 3 rfl) ?_
        refine lv_if_ne (tgt := 32) hx hb dX8_applyCall_18 (by decide) (fun h9 => ?_) (fun h9 => ?_)
        · replace hF := hF.1 h9
          exact B32 (mp_X8_applyCall_12 K n12) ih12 σ x1 x2 x3 hF H locs ls hP hS (lv_sub hl [0, 1, 2, 3] rfl)
        · replace hF := hF.2 h9
          refine lv_iload_n hx hb dX8_applyCall_21 rfl (lv_at hl 2 rfl) ?_
          refine lv_iconst (v := -1) hx hb dX8_applyCall_22 (by decide) ?_
          refine lv_icmp_eq (tgt := 32) hx hb dX8_applyCall_23 (by decide) (fun h10 => ?_) (fun h10 => ?_)
          · replace hF := hF.1 h10
            exact B32 (mp_X8_applyCall_12 K n12) ih12 σ x1 x2 x3 hF H locs ls hP hS (lv_sub hl [0, 1, 2, 3] rfl)
          · replace hF := hF.2 h10
            refine lv_iload_n hx hb dX8_applyCall_26 rfl (lv_at hl 2 rfl) ?_
            refine lv_iconst (v := 1) hx hb dX8_applyCall_27 (by decide) ?_
            refine lv_iadd hx hb dX8_applyCall_28 ?_
            refine lv_goto (tgt := 46) hx hb dX8_applyCall_29 (by decide) ?_
            exact B46 (mp_X8_applyCall_12 K n12) ih12 σ x1 x2 x3 (x2 + 1) hF H locs ls hP hS (lv_sub hl [0, 1, 2, 3] rfl)
  unfold mp_X8_applyCall at hF
  revert hP hS
  generalize hLo : ([] : List Loc) = locs
  suffices h9 : ∀ (H : Heap) (locs : List Loc), va_P D vwCl (sm_wX σ α) H → va_S A s.heap H locs → W p l e (headSpec wp_X8_applyCall { frames := 2, cells := 0, slots := 0, locals := 48 }).room s m ([.ref (α.1 8), .int p1, .int p2] : List Value).toArray below meth c H locs 0 0 (MQ below (va_Qv K (sm_B sm_wX D α) A) ([.ref (α.1 8), .int p1, .int p2] : List Value).toArray s 0 0 A) (F0 m 0 ls []) from fun hP hS => h9 s.heap locs hP hS
  intro H locs hP hS
  refine lv_aload_n hx hb dX8_applyCall_0 rfl (lv_at hl 0 rfl) ?_
  refine va_get (D := D) (ci := 8) (v := .ref (α.1 4)) (C := RX8) (T := TX8) (N := 13) hx hb hts in_X8 hown hK hP 8 (sm_gX8 σ α) rfl 2 (by decide) k_0 (fun _ h9 => h9) rfl dX8_applyCall_1 ?_
  refine va_get (D := D) (ci := 4) (v := .ref (α.1 21)) (C := RX4) (T := TX4) (N := 12) hx hb hts in_X4 hown hK hP 4 (sm_gX4 σ α) rfl 3 (by decide) k_3 (fun _ h9 => h9) rfl dX8_applyCall_4 ?_
  refine lv_iload_n hx hb dX8_applyCall_7 rfl (lv_at hl 1 rfl) ?_
  obtain ⟨h11, hF⟩ := hF
  refine va_iald (n := (σ.2.2.1 21)) (f := (σ.2.2.2.1 21)) hx hb hK hP 21 10 (sm_aX21 σ α) (sm_yX21 α) h11 dX8_applyCall_8 ?_
  refine lv_iconst (v := 1) hx hb dX8_applyCall_9 (by decide) ?_
  refine lv_isub hx hb dX8_applyCall_10 ?_
  refine lv_topi (fun v12 ev12 => ?_)
  replace hF := hF v12 ev12
  refine lv_istore_n (lv' := [(3, .int v12), (0, .ref (α.1 8)), (1, .int p1), (2, .int p2)]) hx hb dX8_applyCall_11 rfl hl (by decide) rfl (fun ls hl => ?_)
  obtain ⟨n12, hF⟩ := hF
  exact B12 n12 σ p1 p2 v12 hF H locs ls hP hS (lv_sub hl [1, 2, 3, 0] rfl)
theorem dX8_applyEnd_0 : decode cX8_applyEnd 0 = .ok (.iload_n 1, 1) := by decide +kernel
theorem dX8_applyEnd_1 : decode cX8_applyEnd 1 = .ok (.tableswitch 152 37 40 #[31, 61, 107, 144], 31) := by decide +kernel
theorem dX8_applyEnd_32 : decode cX8_applyEnd 32 = .ok (.aload_n 0, 1) := by decide +kernel
theorem dX8_applyEnd_33 : decode cX8_applyEnd 33 = .ok (.aload_n 0, 1) := by decide +kernel
theorem dX8_applyEnd_34 : decode cX8_applyEnd 34 = .ok (.getfield 41, 3) := by decide +kernel
theorem dX8_applyEnd_37 : decode cX8_applyEnd 37 = .ok (.getfield 205, 3) := by decide +kernel
theorem dX8_applyEnd_40 : decode cX8_applyEnd 40 = .ok (.aload_n 0, 1) := by decide +kernel
theorem dX8_applyEnd_41 : decode cX8_applyEnd 41 = .ok (.getfield 72, 3) := by decide +kernel
theorem dX8_applyEnd_44 : decode cX8_applyEnd 44 = .ok (.iaload, 1) := by decide +kernel
theorem dX8_applyEnd_45 : decode cX8_applyEnd 45 = .ok (.sipush 255, 3) := by decide +kernel
theorem dX8_applyEnd_48 : decode cX8_applyEnd 48 = .ok (.if_icmp .ne 7, 3) := by decide +kernel
theorem dX8_applyEnd_51 : decode cX8_applyEnd 51 = .ok (.iconst 1, 1) := by decide +kernel
theorem dX8_applyEnd_52 : decode cX8_applyEnd 52 = .ok (.goto 4, 3) := by decide +kernel
theorem dX8_applyEnd_55 : decode cX8_applyEnd 55 = .ok (.iconst 0, 1) := by decide +kernel
theorem dX8_applyEnd_56 : decode cX8_applyEnd 56 = .ok (.putfield 111, 3) := by decide +kernel
theorem dX8_applyEnd_59 : decode cX8_applyEnd 59 = .ok (.goto 99, 3) := by decide +kernel
theorem dX8_applyEnd_62 : decode cX8_applyEnd 62 = .ok (.aload_n 0, 1) := by decide +kernel
theorem dX8_applyEnd_63 : decode cX8_applyEnd 63 = .ok (.aload_n 0, 1) := by decide +kernel
theorem dX8_applyEnd_64 : decode cX8_applyEnd 64 = .ok (.getfield 41, 3) := by decide +kernel
theorem dX8_applyEnd_67 : decode cX8_applyEnd 67 = .ok (.getfield 205, 3) := by decide +kernel
theorem dX8_applyEnd_70 : decode cX8_applyEnd 70 = .ok (.aload_n 0, 1) := by decide +kernel
theorem dX8_applyEnd_71 : decode cX8_applyEnd 71 = .ok (.getfield 72, 3) := by decide +kernel
theorem dX8_applyEnd_74 : decode cX8_applyEnd 74 = .ok (.iaload, 1) := by decide +kernel
theorem dX8_applyEnd_75 : decode cX8_applyEnd 75 = .ok (.sipush 255, 3) := by decide +kernel
theorem dX8_applyEnd_78 : decode cX8_applyEnd 78 = .ok (.if_icmp .eq 7, 3) := by decide +kernel
theorem dX8_applyEnd_81 : decode cX8_applyEnd 81 = .ok (.iconst 1, 1) := by decide +kernel
theorem dX8_applyEnd_82 : decode cX8_applyEnd 82 = .ok (.goto 4, 3) := by decide +kernel
theorem dX8_applyEnd_85 : decode cX8_applyEnd 85 = .ok (.iconst 0, 1) := by decide +kernel
theorem dX8_applyEnd_86 : decode cX8_applyEnd 86 = .ok (.putfield 111, 3) := by decide +kernel
theorem dX8_applyEnd_89 : decode cX8_applyEnd 89 = .ok (.aload_n 0, 1) := by decide +kernel
theorem dX8_applyEnd_90 : decode cX8_applyEnd 90 = .ok (.aload_n 0, 1) := by decide +kernel
theorem dX8_applyEnd_91 : decode cX8_applyEnd 91 = .ok (.getfield 41, 3) := by decide +kernel
theorem dX8_applyEnd_94 : decode cX8_applyEnd 94 = .ok (.getfield 205, 3) := by decide +kernel
theorem dX8_applyEnd_97 : decode cX8_applyEnd 97 = .ok (.aload_n 0, 1) := by decide +kernel
theorem dX8_applyEnd_98 : decode cX8_applyEnd 98 = .ok (.getfield 72, 3) := by decide +kernel
theorem dX8_applyEnd_101 : decode cX8_applyEnd 101 = .ok (.iaload, 1) := by decide +kernel
theorem dX8_applyEnd_102 : decode cX8_applyEnd 102 = .ok (.invokevirtual 168, 3) := by decide +kernel
theorem dX8_applyEnd_105 : decode cX8_applyEnd 105 = .ok (.goto 53, 3) := by decide +kernel
theorem dX8_applyEnd_108 : decode cX8_applyEnd 108 = .ok (.aload_n 0, 1) := by decide +kernel
theorem dX8_applyEnd_109 : decode cX8_applyEnd 109 = .ok (.invokevirtual 159, 3) := by decide +kernel
theorem dX8_applyEnd_112 : decode cX8_applyEnd 112 = .ok (.istore_n 2, 1) := by decide +kernel
theorem dX8_applyEnd_113 : decode cX8_applyEnd 113 = .ok (.aload_n 0, 1) := by decide +kernel
theorem dX8_applyEnd_114 : decode cX8_applyEnd 114 = .ok (.aload_n 0, 1) := by decide +kernel
theorem dX8_applyEnd_115 : decode cX8_applyEnd 115 = .ok (.getfield 111, 3) := by decide +kernel
theorem dX8_applyEnd_118 : decode cX8_applyEnd 118 = .ok (.ifCond .eq 20, 3) := by decide +kernel
theorem dX8_applyEnd_121 : decode cX8_applyEnd 121 = .ok (.iload_n 2, 1) := by decide +kernel
theorem dX8_applyEnd_122 : decode cX8_applyEnd 122 = .ok (.invokestatic 151, 3) := by decide +kernel
theorem dX8_applyEnd_125 : decode cX8_applyEnd 125 = .ok (.ifCond .ne 9, 3) := by decide +kernel
theorem dX8_applyEnd_128 : decode cX8_applyEnd 128 = .ok (.iload_n 2, 1) := by decide +kernel
theorem dX8_applyEnd_129 : decode cX8_applyEnd 129 = .ok (.bipush 97, 2) := by decide +kernel
theorem dX8_applyEnd_131 : decode cX8_applyEnd 131 = .ok (.if_icmp .ne 7, 3) := by decide +kernel
theorem dX8_applyEnd_134 : decode cX8_applyEnd 134 = .ok (.iconst 1, 1) := by decide +kernel
theorem dX8_applyEnd_135 : decode cX8_applyEnd 135 = .ok (.goto 4, 3) := by decide +kernel
theorem dX8_applyEnd_138 : decode cX8_applyEnd 138 = .ok (.iconst 0, 1) := by decide +kernel
theorem dX8_applyEnd_139 : decode cX8_applyEnd 139 = .ok (.putfield 111, 3) := by decide +kernel
theorem dX8_applyEnd_142 : decode cX8_applyEnd 142 = .ok (.goto 16, 3) := by decide +kernel
theorem dX8_applyEnd_145 : decode cX8_applyEnd 145 = .ok (.aload_n 0, 1) := by decide +kernel
theorem dX8_applyEnd_146 : decode cX8_applyEnd 146 = .ok (.iconst 0, 1) := by decide +kernel
theorem dX8_applyEnd_147 : decode cX8_applyEnd 147 = .ok (.invokevirtual 171, 3) := by decide +kernel
theorem dX8_applyEnd_150 : decode cX8_applyEnd 150 = .ok (.goto 8, 3) := by decide +kernel
theorem dX8_applyEnd_153 : decode cX8_applyEnd 153 = .ok (.aload_n 0, 1) := by decide +kernel
theorem dX8_applyEnd_154 : decode cX8_applyEnd 154 = .ok (.iconst 0, 1) := by decide +kernel
theorem dX8_applyEnd_155 : decode cX8_applyEnd 155 = .ok (.invokevirtual 168, 3) := by decide +kernel
theorem dX8_applyEnd_158 : decode cX8_applyEnd 158 = .ok (.return_, 1) := by decide +kernel
def wp_X8_applyEnd : List Cond := .code yX8_applyEnd cX8_applyEnd 3 none :: (((((([.fieldLink RX8 111 "SteadyMachine$Verifier" "fits" "Z", .fieldLink RX8 41 "SteadyMachine$Verifier" "methods" "LSteadyMachine$Methods;", .fieldLink RX8 205 "SteadyMachine$Methods" "gives" "[I", .fieldLink RX8 72 "SteadyMachine$Verifier" "method" "I"] ++ (wsV RX8 168 RX8 yX8_takeFor wp_X8_takeFor)) ++ (wsV RX8 159 RX8 yX8_take wp_X8_take)) ++ (va_wsS RX8 151 yX8_isClass wp_X8_isClass)) ++ (wsV RX8 171 RX8 yX8_push wp_X8_push)) ++ wsX40) ++ wsX80)
theorem wq_X8_applyEnd : wp_X8_applyEnd.all goodWord = true := wa_c rfl (wa_a (wa_a (wa_a (wa_a (wa_a (wa_a (by decide +kernel) (wa_V wq_X8_takeFor)) (wa_V wq_X8_take)) (wa_S wq_X8_isClass)) (wa_V wq_X8_push)) uq_X4) uq_X8)
theorem wt_X8_applyEnd : GoodIn lw_tbl wp_X8_applyEnd := wm_c (List.mem_of_getElem? (i := 843) (by decide +kernel)) rfl (wm_a (wm_a (wm_a (wm_a (wm_a (wm_a (goodIn_r _ [386, 377, 237, 383] (by decide +kernel) (by decide +kernel)) (wm_a (goodIn_r _ [804, 806, 26, 142] (by decide +kernel) (by decide +kernel)) wt_X8_takeFor)) (wm_a (goodIn_r _ [800, 802, 25, 142] (by decide +kernel) (by decide +kernel)) wt_X8_take)) (wm_a (goodIn_r _ [761, 762, 142] (by decide +kernel) (by decide +kernel)) wt_X8_isClass)) (wm_a (goodIn_r _ [796, 798, 24, 142] (by decide +kernel) (by decide +kernel)) wt_X8_push)) ut_X4) ut_X8)
theorem wg_X8_applyEnd_X8_takeFor_168 : GoodIn wp_X8_applyEnd (wsV RX8 168 RX8 yX8_takeFor wp_X8_takeFor) := goodIn_sub (fun w h => List.mem_cons_of_mem _ (List.mem_append_left _ (List.mem_append_left _ (List.mem_append_left _ (List.mem_append_left _ (List.mem_append_left _ (List.mem_append_right _ h))))))) (wa_V wq_X8_takeFor)
theorem wg_X8_applyEnd_X8_take_159 : GoodIn wp_X8_applyEnd (wsV RX8 159 RX8 yX8_take wp_X8_take) := goodIn_sub (fun w h => List.mem_cons_of_mem _ (List.mem_append_left _ (List.mem_append_left _ (List.mem_append_left _ (List.mem_append_left _ (List.mem_append_right _ h)))))) (wa_V wq_X8_take)
theorem wg_X8_applyEnd_X8_isClass_151 : GoodIn wp_X8_applyEnd (va_wsS RX8 151 yX8_isClass wp_X8_isClass) := goodIn_sub (fun w h => List.mem_cons_of_mem _ (List.mem_append_left _ (List.mem_append_left _ (List.mem_append_left _ (List.mem_append_right _ h))))) (wa_S wq_X8_isClass)
theorem wg_X8_applyEnd_X8_push_171 : GoodIn wp_X8_applyEnd (wsV RX8 171 RX8 yX8_push wp_X8_push) := goodIn_sub (fun w h => List.mem_cons_of_mem _ (List.mem_append_left _ (List.mem_append_left _ (List.mem_append_right _ h)))) (wa_V wq_X8_push)
theorem wi_X8_applyEnd_X4 : ∀ w ∈ wsX40, w ∈ wp_X8_applyEnd := fun w h => List.mem_cons_of_mem _ (List.mem_append_left _ (List.mem_append_right _ h))
theorem wi_X8_applyEnd_X8 : ∀ w ∈ wsX80, w ∈ wp_X8_applyEnd := fun w h => List.mem_cons_of_mem _ (List.mem_append_right _ h)
set_option maxHeartbeats 4000000 in
set_option maxRecDepth 100000 in
theorem c_X8_applyEnd (l : Launch) (D : va_G) (sz t0 : Nat) (σ : sm_S) (α : sm_A) (p1 : Int32) (K : sm_S → Prop) (hF : mp_X8_applyEnd σ p1 K) : Met l yX8_applyEnd wp_X8_applyEnd { frames := 2, cells := 0, slots := 0, locals := 48 } (sm_P sm_wX sm_tX 37 D sz t0 σ α [.ref (α.1 8), .int p1]) (va_Qv K (sm_B sm_wX D α) (sm_a α 37 sz)) 0 0 (sm_a α 37 sz) := by
  refine Met.ofW (cc := cX8_applyEnd) (maxL := 3) (ret := none) (by decide) rfl ?_
  intro p e s m args below meth c s₁ B hml hv
  obtain ⟨rfl, hsz, hP, hK, hD0, hE⟩ := hv
  have hx := B.exec
  have hb := B.bytes
  have hr := B.returns
  have hts := atoms_spec (ws := wp_X8_applyEnd) B.pre
  have hown : s.vm.findClass RX8 = some m.cls := findClass_of_methodNamed B.named
  have hlocks := B.notSynchronized
  subst hsz
  have hD : sm_D (sm_a α 37 s.heap.size) α 37 := hD0.own
  have hA : ∀ q : Nat, s.heap.size ≤ q → sm_a α 37 s.heap.size q := fun q h => Or.inr h
  generalize hAe : sm_a α 37 s.heap.size = A at hD hA hE ⊢
  have hS : va_S A s.heap s.heap [] := va_S.rf
  have in_X4 : ∀ w ∈ wsX40, w ∈ wp_X8_applyEnd := wi_X8_applyEnd_X4
  have in_X8 : ∀ w ∈ wsX80, w ∈ wp_X8_applyEnd := wi_X8_applyEnd_X8
  have k_0 := hts (.fieldLink RX8 111 "SteadyMachine$Verifier" "fits" "Z") (by decide +kernel)
  have k_1 := hts (.fieldLink RX8 41 "SteadyMachine$Verifier" "methods" "LSteadyMachine$Methods;") (by decide +kernel)
  have k_2 := hts (.fieldLink RX8 205 "SteadyMachine$Methods" "gives" "[I") (by decide +kernel)
  have k_3 := hts (.fieldLink RX8 72 "SteadyMachine$Verifier" "method" "I") (by decide +kernel)
  have hl := lv_entry ([.ref (α.1 8), .int p1]) (n := 3) (Nat.le_of_ble_eq_true rfl)
  rw [lg_entry_eq]
  generalize (lg_sl ([.ref (α.1 8), .int p1]) ++ List.replicate (3 - (lg_sl ([.ref (α.1 8), .int p1])).length) Slot.unset).toArray = ls at hl ⊢
  have hl : lv_has ls 3 [(0, .ref (α.1 8)), (1, .int p1)] := hl
  have B158 : ∀ (σ : sm_S), mp_X8_applyEnd_158 K σ → sm_J p l e (headSpec wp_X8_applyEnd { frames := 2, cells := 0, slots := 0, locals := 48 }).room s m ([.ref (α.1 8), .int p1] : List Value).toArray below meth c (MQ below (va_Qv K (sm_B sm_wX D α) A) ([.ref (α.1 8), .int p1] : List Value).toArray s 0 0 A) D A 3 (sm_wX σ α) 158 [] [] := by
    intro σ hF H locs ls hP hS hl
    unfold mp_X8_applyEnd_158 at hF
    exact W.vret hx hb hr (fun t ht hW => ⟨⟨σ, rfl, hF, (by unfold sm_B; rw [ht]; exact hP)⟩, hS.F ht⟩) hS.2.2 dX8_applyEnd_158
  have B139 : ∀ (σ : sm_S) (y1 : Int32), mp_X8_applyEnd_139 K σ y1 → sm_J p l e (headSpec wp_X8_applyEnd { frames := 2, cells := 0, slots := 0, locals := 48 }).room s m ([.ref (α.1 8), .int p1] : List Value).toArray below meth c (MQ below (va_Qv K (sm_B sm_wX D α) A) ([.ref (α.1 8), .int p1] : List Value).toArray s 0 0 A) D A 3 (sm_wX σ α) 139 [] [.int y1, .ref (α.1 8)] := by
    intro σ y1 hF H locs ls hP hS hl
    unfold mp_X8_applyEnd_139 at hF
    obtain ⟨h1, hF⟩ := hF
    refine va_put (D := D) (ci := 8) (v := .int y1) (ty := .boolean) (C := RX8) (T := TX8) (N := 13) hx hb hts in_X8 tyX8 tyX8_ok nmX8 hown hK hP (hD.to (sm_wX_m _ _)) hS 8 (sm_gX8 σ α) rfl 11 (by decide) k_0 (fun _ h9 => h9) rfl (by decide +kernel) h1.1 h1.2 (Nat.le_of_ble_eq_true rfl) dX8_applyEnd_139 (fun H locs hP _ hS => ?_)
    rw [sm_iX33] at hP
    obtain ⟨σ2, eσ2⟩ : ∃ x : sm_S, x = sm_i σ 33 y1 := ⟨_, rfl⟩
    replace hF := hF σ2 eσ2
    rw [← eσ2] at hP
    refine lv_goto (tgt := 158) hx hb dX8_applyEnd_142 (by decide) ?_
    exact B158 σ2 hF H locs ls hP hS (lv_sub hl [] rfl)
  have B138 : ∀ (σ : sm_S), mp_X8_applyEnd_138 K σ → sm_J p l e (headSpec wp_X8_applyEnd { frames := 2, cells := 0, slots := 0, locals := 48 }).room s m ([.ref (α.1 8), .int p1] : List Value).toArray below meth c (MQ below (va_Qv K (sm_B sm_wX D α) A) ([.ref (α.1 8), .int p1] : List Value).toArray s 0 0 A) D A 3 (sm_wX σ α) 138 [] [.ref (α.1 8)] := by
    intro σ hF H locs ls hP hS hl
    unfold mp_X8_applyEnd_138 at hF
    refine lv_iconst (v := 0) hx hb dX8_applyEnd_138 (by decide) ?_
    exact B139 σ 0 hF H locs ls hP hS (lv_sub hl [] rfl)
  have B134 : ∀ (σ : sm_S), mp_X8_applyEnd_134 K σ → sm_J p l e (headSpec wp_X8_applyEnd { frames := 2, cells := 0, slots := 0, locals := 48 }).room s m ([.ref (α.1 8), .int p1] : List Value).toArray below meth c (MQ below (va_Qv K (sm_B sm_wX D α) A) ([.ref (α.1 8), .int p1] : List Value).toArray s 0 0 A) D A 3 (sm_wX σ α) 134 [] [.ref (α.1 8)] := by
    intro σ hF H locs ls hP hS hl
    unfold mp_X8_applyEnd_134 at hF
    refine lv_iconst (v := 1) hx hb dX8_applyEnd_134 (by decide) ?_
    refine lv_goto (tgt := 139) hx hb dX8_applyEnd_135 (by decide) ?_
    exact B139 σ 1 hF H locs ls hP hS (lv_sub hl [] rfl)
  have B86 : ∀ (σ : sm_S) (y1 : Int32), mp_X8_applyEnd_86 K σ y1 → sm_J p l e (headSpec wp_X8_applyEnd { frames := 2, cells := 0, slots := 0, locals := 48 }).room s m ([.ref (α.1 8), .int p1] : List Value).toArray below meth c (MQ below (va_Qv K (sm_B sm_wX D α) A) ([.ref (α.1 8), .int p1] : List Value).toArray s 0 0 A) D A 3 (sm_wX σ α) 86 [(0, .ref (α.1 8))] [.int y1, .ref (α.1 8)] := by
    intro σ y1 hF H locs ls hP hS hl
    unfold mp_X8_applyEnd_86 at hF
    obtain ⟨h3, hF⟩ := hF
    refine va_put (D := D) (ci := 8) (v := .int y1) (ty := .boolean) (C := RX8) (T := TX8) (N := 13) hx hb hts in_X8 tyX8 tyX8_ok nmX8 hown hK hP (hD.to (sm_wX_m _ _)) hS 8 (sm_gX8 σ α) rfl 11 (by decide) k_0 (fun _ h9 => h9) rfl (by decide +kernel) h3.1 h3.2 (Nat.le_of_ble_eq_true rfl) dX8_applyEnd_86 (fun H locs hP _ hS => ?_)
    rw [sm_iX33] at hP
    obtain ⟨σ4, eσ4⟩ : ∃ x : sm_S, x = sm_i σ 33 y1 := ⟨_, rfl⟩
    replace hF := hF σ4 eσ4
    rw [← eσ4] at hP
    refine lv_aload_n hx hb dX8_applyEnd_89 rfl (lv_at hl 0 rfl) ?_
    refine lv_aload_n hx hb dX8_applyEnd_90 rfl (lv_at hl 0 rfl) ?_
    refine va_get (D := D) (ci := 8) (v := .ref (α.1 4)) (C := RX8) (T := TX8) (N := 13) hx hb hts in_X8 hown hK hP 8 (sm_gX8 σ4 α) rfl 2 (by decide) k_1 (fun _ h9 => h9) rfl dX8_applyEnd_91 ?_
    refine va_get (D := D) (ci := 4) (v := .ref (α.1 23)) (C := RX4) (T := TX4) (N := 12) hx hb hts in_X4 hown hK hP 4 (sm_gX4 σ4 α) rfl 5 (by decide) k_2 (fun _ h9 => h9) rfl dX8_applyEnd_94 ?_
    refine lv_aload_n hx hb dX8_applyEnd_97 rfl (lv_at hl 0 rfl) ?_
    refine va_get (D := D) (ci := 8) (v := .int (σ4.1 30)) (C := RX8) (T := TX8) (N := 13) hx hb hts in_X8 hown hK hP 8 (sm_gX8 σ4 α) rfl 8 (by decide) k_3 (fun _ h9 => h9) rfl dX8_applyEnd_98 ?_
    obtain ⟨h5, hF⟩ := hF
    refine va_iald (n := (σ4.2.2.1 23)) (f := (σ4.2.2.2.1 23)) hx hb hK hP 23 12 (sm_aX23 σ4 α) (sm_yX23 α) h5 dX8_applyEnd_101 ?_
    refine sm_vv (As := [.int ((σ4.2.2.2.1 23) (σ4.1 30).toNatClampNeg)]) (rest := []) hP hK hD hE hS hA ⟨hx, hb, hml, hown, hts⟩ hl.1 (c_X8_takeFor l D H.size t0 σ4 α ((σ4.2.2.2.1 23) (σ4.1 30).toNatClampNeg) _ hF) (cwV 1 hts wg_X8_applyEnd_X8_takeFor_168 rfl rfl rfl (by decide +kernel) ⟨Nat.le_of_ble_eq_true rfl, Nat.le_of_ble_eq_true rfl⟩) (va_recv hK hP (ci := 8) (q0 := 8) rfl (sm_gX8 σ4 α)) rfl rfl (Nat.le_of_ble_eq_true rfl) dX8_applyEnd_102 ⟨Nat.zero_le _, Nat.zero_le _⟩ (fun σ6 H locs hF hP hS => ?_)
    refine lv_goto (tgt := 158) hx hb dX8_applyEnd_105 (by decide) ?_
    exact B158 σ6 hF H locs ls hP hS (lv_sub hl [] rfl)
  have B56 : ∀ (σ : sm_S) (y1 : Int32), mp_X8_applyEnd_56 K σ y1 → sm_J p l e (headSpec wp_X8_applyEnd { frames := 2, cells := 0, slots := 0, locals := 48 }).room s m ([.ref (α.1 8), .int p1] : List Value).toArray below meth c (MQ below (va_Qv K (sm_B sm_wX D α) A) ([.ref (α.1 8), .int p1] : List Value).toArray s 0 0 A) D A 3 (sm_wX σ α) 56 [] [.int y1, .ref (α.1 8)] := by
    intro σ y1 hF H locs ls hP hS hl
    unfold mp_X8_applyEnd_56 at hF
    obtain ⟨h7, hF⟩ := hF
    refine va_put (D := D) (ci := 8) (v := .int y1) (ty := .boolean) (C := RX8) (T := TX8) (N := 13) hx hb hts in_X8 tyX8 tyX8_ok nmX8 hown hK hP (hD.to (sm_wX_m _ _)) hS 8 (sm_gX8 σ α) rfl 11 (by decide) k_0 (fun _ h9 => h9) rfl (by decide +kernel) h7.1 h7.2 (Nat.le_of_ble_eq_true rfl) dX8_applyEnd_56 (fun H locs hP _ hS => ?_)
    rw [sm_iX33] at hP
    obtain ⟨σ8, eσ8⟩ : ∃ x : sm_S, x = sm_i σ 33 y1 := ⟨_, rfl⟩
    replace hF := hF σ8 eσ8
    rw [← eσ8] at hP
    refine lv_goto (tgt := 158) hx hb dX8_applyEnd_59 (by decide) ?_
    exact B158 σ8 hF H locs ls hP hS (lv_sub hl [] rfl)
  unfold mp_X8_applyEnd at hF
  revert hP hS
  generalize hLo : ([] : List Loc) = locs
  suffices h9 : ∀ (H : Heap) (locs : List Loc), va_P D vwCl (sm_wX σ α) H → va_S A s.heap H locs → W p l e (headSpec wp_X8_applyEnd { frames := 2, cells := 0, slots := 0, locals := 48 }).room s m ([.ref (α.1 8), .int p1] : List Value).toArray below meth c H locs 0 0 (MQ below (va_Qv K (sm_B sm_wX D α) A) ([.ref (α.1 8), .int p1] : List Value).toArray s 0 0 A) (F0 m 0 ls []) from fun hP hS => h9 s.heap locs hP hS
  intro H locs hP hS
  refine lv_iload_n hx hb dX8_applyEnd_0 rfl (lv_at hl 1 rfl) ?_
  by_cases h9 : p1 = 37
  · refine lv_tableIn (tgt := 32) hx hb dX8_applyEnd_1 (by rw [h9]; decide) (by rw [h9]; decide) (by rw [h9]; rfl) (by decide) ?_
    replace hF := hF.1 h9
    refine lv_aload_n hx hb dX8_applyEnd_32 rfl (lv_at hl 0 rfl) ?_
    refine lv_aload_n hx hb dX8_applyEnd_33 rfl (lv_at hl 0 rfl) ?_
    refine va_get (D := D) (ci := 8) (v := .ref (α.1 4)) (C := RX8) (T := TX8) (N := 13) hx hb hts in_X8 hown hK hP 8 (sm_gX8 σ α) rfl 2 (by decide) k_1 (fun _ h9 => h9) rfl dX8_applyEnd_34 ?_
    refine va_get (D := D) (ci := 4) (v := .ref (α.1 23)) (C := RX4) (T := TX4) (N := 12) hx hb hts in_X4 hown hK hP 4 (sm_gX4 σ α) rfl 5 (by decide) k_2 (fun _ h9 => h9) rfl dX8_applyEnd_37 ?_
    refine lv_aload_n hx hb dX8_applyEnd_40 rfl (lv_at hl 0 rfl) ?_
    refine va_get (D := D) (ci := 8) (v := .int (σ.1 30)) (C := RX8) (T := TX8) (N := 13) hx hb hts in_X8 hown hK hP 8 (sm_gX8 σ α) rfl 8 (by decide) k_3 (fun _ h9 => h9) rfl dX8_applyEnd_41 ?_
    obtain ⟨h10, hF⟩ := hF
    refine va_iald (n := (σ.2.2.1 23)) (f := (σ.2.2.2.1 23)) hx hb hK hP 23 12 (sm_aX23 σ α) (sm_yX23 α) h10 dX8_applyEnd_44 ?_
    refine lv_sipush (v := 255) hx hb dX8_applyEnd_45 (by decide) ?_
    refine lv_icmp_ne (tgt := 55) hx hb dX8_applyEnd_48 (by decide) (fun h11 => ?_) (fun h11 => ?_)
    · replace hF := hF.1 h11
      refine lv_iconst (v := 0) hx hb dX8_applyEnd_55 (by decide) ?_
      exact B56 σ 0 hF H locs ls hP hS (lv_sub hl [] rfl)
    · replace hF := hF.2 h11
      refine lv_iconst (v := 1) hx hb dX8_applyEnd_51 (by decide) ?_
      refine lv_goto (tgt := 56) hx hb dX8_applyEnd_52 (by decide) ?_
      exact B56 σ 1 hF H locs ls hP hS (lv_sub hl [] rfl)
  by_cases h12 : p1 = 38
  · refine lv_tableIn (tgt := 62) hx hb dX8_applyEnd_1 (by rw [h12]; decide) (by rw [h12]; decide) (by rw [h12]; rfl) (by decide) ?_
    replace hF := hF.2.1 h12
    refine lv_aload_n hx hb dX8_applyEnd_62 rfl (lv_at hl 0 rfl) ?_
    refine lv_aload_n hx hb dX8_applyEnd_63 rfl (lv_at hl 0 rfl) ?_
    refine va_get (D := D) (ci := 8) (v := .ref (α.1 4)) (C := RX8) (T := TX8) (N := 13) hx hb hts in_X8 hown hK hP 8 (sm_gX8 σ α) rfl 2 (by decide) k_1 (fun _ h9 => h9) rfl dX8_applyEnd_64 ?_
    refine va_get (D := D) (ci := 4) (v := .ref (α.1 23)) (C := RX4) (T := TX4) (N := 12) hx hb hts in_X4 hown hK hP 4 (sm_gX4 σ α) rfl 5 (by decide) k_2 (fun _ h9 => h9) rfl dX8_applyEnd_67 ?_
    refine lv_aload_n hx hb dX8_applyEnd_70 rfl (lv_at hl 0 rfl) ?_
    refine va_get (D := D) (ci := 8) (v := .int (σ.1 30)) (C := RX8) (T := TX8) (N := 13) hx hb hts in_X8 hown hK hP 8 (sm_gX8 σ α) rfl 8 (by decide) k_3 (fun _ h9 => h9) rfl dX8_applyEnd_71 ?_
    obtain ⟨h13, hF⟩ := hF
    refine va_iald (n := (σ.2.2.1 23)) (f := (σ.2.2.2.1 23)) hx hb hK hP 23 12 (sm_aX23 σ α) (sm_yX23 α) h13 dX8_applyEnd_74 ?_
    refine lv_sipush (v := 255) hx hb dX8_applyEnd_75 (by decide) ?_
    refine lv_icmp_eq (tgt := 85) hx hb dX8_applyEnd_78 (by decide) (fun h14 => ?_) (fun h14 => ?_)
    · replace hF := hF.1 h14
      refine lv_iconst (v := 0) hx hb dX8_applyEnd_85 (by decide) ?_
      exact B86 σ 0 hF H locs ls hP hS (lv_sub hl [0] rfl)
    · replace hF := hF.2 h14
      refine lv_iconst (v := 1) hx hb dX8_applyEnd_81 (by decide) ?_
      refine lv_goto (tgt := 86) hx hb dX8_applyEnd_82 (by decide) ?_
      exact B86 σ 1 hF H locs ls hP hS (lv_sub hl [0] rfl)
  by_cases h15 : p1 = 39
  · refine lv_tableIn (tgt := 108) hx hb dX8_applyEnd_1 (by rw [h15]; decide) (by rw [h15]; decide) (by rw [h15]; rfl) (by decide) ?_
    replace hF := hF.2.2.1 h15
    refine lv_aload_n hx hb dX8_applyEnd_108 rfl (lv_at hl 0 rfl) ?_
    refine sm_vi (As := []) (rest := []) hP hK hD hE hS hA ⟨hx, hb, hml, hown, hts⟩ hl.1 (c_X8_take l D H.size t0 σ α _ hF) (cwV 0 hts wg_X8_applyEnd_X8_take_159 rfl rfl rfl (by decide +kernel) ⟨Nat.le_of_ble_eq_true rfl, Nat.le_of_ble_eq_true rfl⟩) (va_recv hK hP (ci := 8) (q0 := 8) rfl (sm_gX8 σ α)) rfl rfl (Nat.le_of_ble_eq_true rfl) dX8_applyEnd_109 ⟨Nat.zero_le _, Nat.zero_le _⟩ (fun r17 σ16 H locs hF hP hS => ?_)
    refine lv_istore_n (lv' := [(2, .int r17), (0, .ref (α.1 8)), (1, .int p1)]) hx hb dX8_applyEnd_112 rfl hl (by decide) rfl (fun ls hl => ?_)
    refine lv_aload_n hx hb dX8_applyEnd_113 rfl (lv_at hl 1 rfl) ?_
    refine lv_aload_n hx hb dX8_applyEnd_114 rfl (lv_at hl 1 rfl) ?_
    refine va_get (D := D) (ci := 8) (v := .int (σ16.1 33)) (C := RX8) (T := TX8) (N := 13) hx hb hts in_X8 hown hK hP 8 (sm_gX8 σ16 α) rfl 11 (by decide) k_0 (fun _ h9 => h9) rfl dX8_applyEnd_115 ?_
    refine lv_if_eq (tgt := 138) hx hb dX8_applyEnd_118 (by decide) (fun h18 => ?_) (fun h18 => ?_)
    · replace hF := hF.1 h18
      exact B138 σ16 hF H locs ls hP hS (lv_sub hl [] rfl)
    · replace hF := hF.2 h18
      refine lv_iload_n hx hb dX8_applyEnd_121 rfl (lv_at hl 0 rfl) ?_
      refine sm_si (As := [.int r17]) (rest := [.ref (α.1 8)]) hP hK hD hE hS hA ⟨hx, hb, hml, hown, hts⟩ hl.1 (c_X8_isClass l D H.size t0 σ16 α r17 _ hF) (va_cwS 1 hts wg_X8_applyEnd_X8_isClass_151 rfl rfl rfl (by decide +kernel) ⟨Nat.le_of_ble_eq_true rfl, Nat.le_of_ble_eq_true rfl⟩) rfl rfl (Nat.le_of_ble_eq_true rfl) dX8_applyEnd_122 ⟨Nat.zero_le _, Nat.zero_le _⟩ (fun r20 σ19 H locs hF hP hS => ?_)
      refine lv_if_ne (tgt := 134) hx hb dX8_applyEnd_125 (by decide) (fun h21 => ?_) (fun h21 => ?_)
      · replace hF := hF.1 h21
        exact B134 σ19 hF H locs ls hP hS (lv_sub hl [] rfl)
      · replace hF := hF.2 h21
        refine lv_iload_n hx hb dX8_applyEnd_128 rfl (lv_at hl 0 rfl) ?_
        refine lv_bipush (v := 97) hx hb dX8_applyEnd_129 (by decide) ?_
        refine lv_icmp_ne (tgt := 138) hx hb dX8_applyEnd_131 (by decide) (fun h22 => ?_) (fun h22 => ?_)
        · replace hF := hF.1 h22
          exact B138 σ19 hF H locs ls hP hS (lv_sub hl [] rfl)
        · replace hF := hF.2 h22
          exact B134 σ19 hF H locs ls hP hS (lv_sub hl [] rfl)
  by_cases h23 : p1 = 40
  · refine lv_tableIn (tgt := 145) hx hb dX8_applyEnd_1 (by rw [h23]; decide) (by rw [h23]; decide) (by rw [h23]; rfl) (by decide) ?_
    replace hF := hF.2.2.2.1 h23
    refine lv_aload_n hx hb dX8_applyEnd_145 rfl (lv_at hl 0 rfl) ?_
    refine lv_iconst (v := 0) hx hb dX8_applyEnd_146 (by decide) ?_
    refine sm_vv (As := [.int 0]) (rest := []) hP hK hD hE hS hA ⟨hx, hb, hml, hown, hts⟩ hl.1 (c_X8_push l D H.size t0 σ α 0 _ hF) (cwV 1 hts wg_X8_applyEnd_X8_push_171 rfl rfl rfl (by decide +kernel) ⟨Nat.le_of_ble_eq_true rfl, Nat.le_of_ble_eq_true rfl⟩) (va_recv hK hP (ci := 8) (q0 := 8) rfl (sm_gX8 σ α)) rfl rfl (Nat.le_of_ble_eq_true rfl) dX8_applyEnd_147 ⟨Nat.zero_le _, Nat.zero_le _⟩ (fun σ24 H locs hF hP hS => ?_)
    refine lv_goto (tgt := 158) hx hb dX8_applyEnd_150 (by decide) ?_
    exact B158 σ24 hF H locs ls hP hS (lv_sub hl [] rfl)
  refine lv_tableOut (tgt := 153) hx hb dX8_applyEnd_1 (by have q0 := lv_neT h9 (show Int32.toInt 37 = 37 by decide); have q1 := lv_neT h12 (show Int32.toInt 38 = 38 by decide); have q2 := lv_neT h15 (show Int32.toInt 39 = 39 by decide); have q3 := lv_neT h23 (show Int32.toInt 40 = 40 by decide); omega) (by decide) ?_
  replace hF := hF.2.2.2.2 h9 h12 h15 h23
  refine lv_aload_n hx hb dX8_applyEnd_153 rfl (lv_at hl 0 rfl) ?_
  refine lv_iconst (v := 0) hx hb dX8_applyEnd_154 (by decide) ?_
  refine sm_vv (As := [.int 0]) (rest := []) hP hK hD hE hS hA ⟨hx, hb, hml, hown, hts⟩ hl.1 (c_X8_takeFor l D H.size t0 σ α 0 _ hF) (cwV 1 hts wg_X8_applyEnd_X8_takeFor_168 rfl rfl rfl (by decide +kernel) ⟨Nat.le_of_ble_eq_true rfl, Nat.le_of_ble_eq_true rfl⟩) (va_recv hK hP (ci := 8) (q0 := 8) rfl (sm_gX8 σ α)) rfl rfl (Nat.le_of_ble_eq_true rfl) dX8_applyEnd_155 ⟨Nat.zero_le _, Nat.zero_le _⟩ (fun σ25 H locs hF hP hS => ?_)
  exact B158 σ25 hF H locs ls hP hS (lv_sub hl [] rfl)
theorem dX8_takeReference_0 : decode cX8_takeReference 0 = .ok (.aload_n 0, 1) := by decide +kernel
theorem dX8_takeReference_1 : decode cX8_takeReference 1 = .ok (.invokevirtual 159, 3) := by decide +kernel
theorem dX8_takeReference_4 : decode cX8_takeReference 4 = .ok (.istore_n 1, 1) := by decide +kernel
theorem dX8_takeReference_5 : decode cX8_takeReference 5 = .ok (.aload_n 0, 1) := by decide +kernel
theorem dX8_takeReference_6 : decode cX8_takeReference 6 = .ok (.aload_n 0, 1) := by decide +kernel
theorem dX8_takeReference_7 : decode cX8_takeReference 7 = .ok (.getfield 111, 3) := by decide +kernel
theorem dX8_takeReference_10 : decode cX8_takeReference 10 = .ok (.ifCond .eq 11, 3) := by decide +kernel
theorem dX8_takeReference_13 : decode cX8_takeReference 13 = .ok (.iload_n 1, 1) := by decide +kernel
theorem dX8_takeReference_14 : decode cX8_takeReference 14 = .ok (.ifCond .eq 7, 3) := by decide +kernel
theorem dX8_takeReference_17 : decode cX8_takeReference 17 = .ok (.iconst 1, 1) := by decide +kernel
theorem dX8_takeReference_18 : decode cX8_takeReference 18 = .ok (.goto 4, 3) := by decide +kernel
theorem dX8_takeReference_21 : decode cX8_takeReference 21 = .ok (.iconst 0, 1) := by decide +kernel
theorem dX8_takeReference_22 : decode cX8_takeReference 22 = .ok (.putfield 111, 3) := by decide +kernel
theorem dX8_takeReference_25 : decode cX8_takeReference 25 = .ok (.return_, 1) := by decide +kernel
def wp_X8_takeReference : List Cond := .code yX8_takeReference cX8_takeReference 2 none :: (([.fieldLink RX8 111 "SteadyMachine$Verifier" "fits" "Z"] ++ (wsV RX8 159 RX8 yX8_take wp_X8_take)) ++ wsX80)
theorem wq_X8_takeReference : wp_X8_takeReference.all goodWord = true := wa_c rfl (wa_a (wa_a (by decide +kernel) (wa_V wq_X8_take)) uq_X8)
theorem wt_X8_takeReference : GoodIn lw_tbl wp_X8_takeReference := wm_c (List.mem_of_getElem? (i := 819) (by decide +kernel)) rfl (wm_a (wm_a (goodIn_r _ [386] (by decide +kernel) (by decide +kernel)) (wm_a (goodIn_r _ [800, 802, 25, 142] (by decide +kernel) (by decide +kernel)) wt_X8_take)) ut_X8)
theorem wg_X8_takeReference_X8_take_159 : GoodIn wp_X8_takeReference (wsV RX8 159 RX8 yX8_take wp_X8_take) := goodIn_sub (fun w h => List.mem_cons_of_mem _ (List.mem_append_left _ (List.mem_append_right _ h))) (wa_V wq_X8_take)
theorem wi_X8_takeReference_X8 : ∀ w ∈ wsX80, w ∈ wp_X8_takeReference := fun w h => List.mem_cons_of_mem _ (List.mem_append_right _ h)
set_option maxHeartbeats 4000000 in
set_option maxRecDepth 100000 in
theorem c_X8_takeReference (l : Launch) (D : va_G) (sz t0 : Nat) (σ : sm_S) (α : sm_A) (K : sm_S → Prop) (hF : mp_X8_takeReference σ K) : Met l yX8_takeReference wp_X8_takeReference { frames := 1, cells := 0, slots := 0, locals := 20 } (sm_P sm_wX sm_tX 37 D sz t0 σ α [.ref (α.1 8)]) (va_Qv K (sm_B sm_wX D α) (sm_a α 37 sz)) 0 0 (sm_a α 37 sz) := by
  refine Met.ofW (cc := cX8_takeReference) (maxL := 2) (ret := none) (by decide) rfl ?_
  intro p e s m args below meth c s₁ B hml hv
  obtain ⟨rfl, hsz, hP, hK, hD0, hE⟩ := hv
  have hx := B.exec
  have hb := B.bytes
  have hr := B.returns
  have hts := atoms_spec (ws := wp_X8_takeReference) B.pre
  have hown : s.vm.findClass RX8 = some m.cls := findClass_of_methodNamed B.named
  have hlocks := B.notSynchronized
  subst hsz
  have hD : sm_D (sm_a α 37 s.heap.size) α 37 := hD0.own
  have hA : ∀ q : Nat, s.heap.size ≤ q → sm_a α 37 s.heap.size q := fun q h => Or.inr h
  generalize hAe : sm_a α 37 s.heap.size = A at hD hA hE ⊢
  have hS : va_S A s.heap s.heap [] := va_S.rf
  have in_X8 : ∀ w ∈ wsX80, w ∈ wp_X8_takeReference := wi_X8_takeReference_X8
  have k_0 := hts (.fieldLink RX8 111 "SteadyMachine$Verifier" "fits" "Z") (by decide +kernel)
  have hl := lv_entry ([.ref (α.1 8)]) (n := 2) (Nat.le_of_ble_eq_true rfl)
  rw [lg_entry_eq]
  generalize (lg_sl ([.ref (α.1 8)]) ++ List.replicate (2 - (lg_sl ([.ref (α.1 8)])).length) Slot.unset).toArray = ls at hl ⊢
  have hl : lv_has ls 2 [(0, .ref (α.1 8))] := hl
  have B22 : ∀ (σ : sm_S) (y1 : Int32), mp_X8_takeReference_22 K σ y1 → sm_J p l e (headSpec wp_X8_takeReference { frames := 1, cells := 0, slots := 0, locals := 20 }).room s m ([.ref (α.1 8)] : List Value).toArray below meth c (MQ below (va_Qv K (sm_B sm_wX D α) A) ([.ref (α.1 8)] : List Value).toArray s 0 0 A) D A 2 (sm_wX σ α) 22 [] [.int y1, .ref (α.1 8)] := by
    intro σ y1 hF H locs ls hP hS hl
    unfold mp_X8_takeReference_22 at hF
    obtain ⟨h1, hF⟩ := hF
    refine va_put (D := D) (ci := 8) (v := .int y1) (ty := .boolean) (C := RX8) (T := TX8) (N := 13) hx hb hts in_X8 tyX8 tyX8_ok nmX8 hown hK hP (hD.to (sm_wX_m _ _)) hS 8 (sm_gX8 σ α) rfl 11 (by decide) k_0 (fun _ h9 => h9) rfl (by decide +kernel) h1.1 h1.2 (Nat.le_of_ble_eq_true rfl) dX8_takeReference_22 (fun H locs hP _ hS => ?_)
    rw [sm_iX33] at hP
    obtain ⟨σ2, eσ2⟩ : ∃ x : sm_S, x = sm_i σ 33 y1 := ⟨_, rfl⟩
    replace hF := hF σ2 eσ2
    rw [← eσ2] at hP
    exact W.vret hx hb hr (fun t ht hW => ⟨⟨σ2, rfl, hF, (by unfold sm_B; rw [ht]; exact hP)⟩, hS.F ht⟩) hS.2.2 dX8_takeReference_25
  have B21 : ∀ (σ : sm_S), mp_X8_takeReference_21 K σ → sm_J p l e (headSpec wp_X8_takeReference { frames := 1, cells := 0, slots := 0, locals := 20 }).room s m ([.ref (α.1 8)] : List Value).toArray below meth c (MQ below (va_Qv K (sm_B sm_wX D α) A) ([.ref (α.1 8)] : List Value).toArray s 0 0 A) D A 2 (sm_wX σ α) 21 [] [.ref (α.1 8)] := by
    intro σ hF H locs ls hP hS hl
    unfold mp_X8_takeReference_21 at hF
    refine lv_iconst (v := 0) hx hb dX8_takeReference_21 (by decide) ?_
    exact B22 σ 0 hF H locs ls hP hS (lv_sub hl [] rfl)
  unfold mp_X8_takeReference at hF
  revert hP hS
  generalize hLo : ([] : List Loc) = locs
  suffices h9 : ∀ (H : Heap) (locs : List Loc), va_P D vwCl (sm_wX σ α) H → va_S A s.heap H locs → W p l e (headSpec wp_X8_takeReference { frames := 1, cells := 0, slots := 0, locals := 20 }).room s m ([.ref (α.1 8)] : List Value).toArray below meth c H locs 0 0 (MQ below (va_Qv K (sm_B sm_wX D α) A) ([.ref (α.1 8)] : List Value).toArray s 0 0 A) (F0 m 0 ls []) from fun hP hS => h9 s.heap locs hP hS
  intro H locs hP hS
  refine lv_aload_n hx hb dX8_takeReference_0 rfl (lv_at hl 0 rfl) ?_
  refine sm_vi (As := []) (rest := []) hP hK hD hE hS hA ⟨hx, hb, hml, hown, hts⟩ hl.1 (c_X8_take l D H.size t0 σ α _ hF) (cwV 0 hts wg_X8_takeReference_X8_take_159 rfl rfl rfl (by decide +kernel) ⟨Nat.le_of_ble_eq_true rfl, Nat.le_of_ble_eq_true rfl⟩) (va_recv hK hP (ci := 8) (q0 := 8) rfl (sm_gX8 σ α)) rfl rfl (Nat.le_of_ble_eq_true rfl) dX8_takeReference_1 ⟨Nat.zero_le _, Nat.zero_le _⟩ (fun r4 σ3 H locs hF hP hS => ?_)
  refine lv_istore_n (lv' := [(1, .int r4), (0, .ref (α.1 8))]) hx hb dX8_takeReference_4 rfl hl (by decide) rfl (fun ls hl => ?_)
  refine lv_aload_n hx hb dX8_takeReference_5 rfl (lv_at hl 1 rfl) ?_
  refine lv_aload_n hx hb dX8_takeReference_6 rfl (lv_at hl 1 rfl) ?_
  refine va_get (D := D) (ci := 8) (v := .int (σ3.1 33)) (C := RX8) (T := TX8) (N := 13) hx hb hts in_X8 hown hK hP 8 (sm_gX8 σ3 α) rfl 11 (by decide) k_0 (fun _ h9 => h9) rfl dX8_takeReference_7 ?_
  refine lv_if_eq (tgt := 21) hx hb dX8_takeReference_10 (by decide) (fun h5 => ?_) (fun h5 => ?_)
  · replace hF := hF.1 h5
    exact B21 σ3 hF H locs ls hP hS (lv_sub hl [] rfl)
  · replace hF := hF.2 h5
    refine lv_iload_n hx hb dX8_takeReference_13 rfl (lv_at hl 0 rfl) ?_
    refine lv_if_eq (tgt := 21) hx hb dX8_takeReference_14 (by decide) (fun h6 => ?_) (fun h6 => ?_)
    · replace hF := hF.1 h6
      exact B21 σ3 hF H locs ls hP hS (lv_sub hl [] rfl)
    · replace hF := hF.2 h6
      refine lv_iconst (v := 1) hx hb dX8_takeReference_17 (by decide) ?_
      refine lv_goto (tgt := 22) hx hb dX8_takeReference_18 (by decide) ?_
      exact B22 σ3 1 hF H locs ls hP hS (lv_sub hl [] rfl)
theorem dX8_applyJump_0 : decode cX8_applyJump 0 = .ok (.iload_n 1, 1) := by decide +kernel
theorem dX8_applyJump_1 : decode cX8_applyJump 1 = .ok (.tableswitch 78 19 24 #[39, 47, 60, 60, 67, 67], 39) := by decide +kernel
theorem dX8_applyJump_40 : decode cX8_applyJump 40 = .ok (.aload_n 0, 1) := by decide +kernel
theorem dX8_applyJump_41 : decode cX8_applyJump 41 = .ok (.iconst 0, 1) := by decide +kernel
theorem dX8_applyJump_42 : decode cX8_applyJump 42 = .ok (.invokevirtual 168, 3) := by decide +kernel
theorem dX8_applyJump_45 : decode cX8_applyJump 45 = .ok (.goto 34, 3) := by decide +kernel
theorem dX8_applyJump_48 : decode cX8_applyJump 48 = .ok (.aload_n 0, 1) := by decide +kernel
theorem dX8_applyJump_49 : decode cX8_applyJump 49 = .ok (.iconst 0, 1) := by decide +kernel
theorem dX8_applyJump_50 : decode cX8_applyJump 50 = .ok (.invokevirtual 168, 3) := by decide +kernel
theorem dX8_applyJump_53 : decode cX8_applyJump 53 = .ok (.aload_n 0, 1) := by decide +kernel
theorem dX8_applyJump_54 : decode cX8_applyJump 54 = .ok (.iconst 0, 1) := by decide +kernel
theorem dX8_applyJump_55 : decode cX8_applyJump 55 = .ok (.invokevirtual 168, 3) := by decide +kernel
theorem dX8_applyJump_58 : decode cX8_applyJump 58 = .ok (.goto 21, 3) := by decide +kernel
theorem dX8_applyJump_61 : decode cX8_applyJump 61 = .ok (.aload_n 0, 1) := by decide +kernel
theorem dX8_applyJump_62 : decode cX8_applyJump 62 = .ok (.invokevirtual 196, 3) := by decide +kernel
theorem dX8_applyJump_65 : decode cX8_applyJump 65 = .ok (.goto 14, 3) := by decide +kernel
theorem dX8_applyJump_68 : decode cX8_applyJump 68 = .ok (.aload_n 0, 1) := by decide +kernel
theorem dX8_applyJump_69 : decode cX8_applyJump 69 = .ok (.invokevirtual 196, 3) := by decide +kernel
theorem dX8_applyJump_72 : decode cX8_applyJump 72 = .ok (.aload_n 0, 1) := by decide +kernel
theorem dX8_applyJump_73 : decode cX8_applyJump 73 = .ok (.invokevirtual 196, 3) := by decide +kernel
theorem dX8_applyJump_76 : decode cX8_applyJump 76 = .ok (.goto 3, 3) := by decide +kernel
theorem dX8_applyJump_79 : decode cX8_applyJump 79 = .ok (.return_, 1) := by decide +kernel
def wp_X8_applyJump : List Cond := .code yX8_applyJump cX8_applyJump 2 none :: (([] ++ (wsV RX8 168 RX8 yX8_takeFor wp_X8_takeFor)) ++ (wsV RX8 196 RX8 yX8_takeReference wp_X8_takeReference))
theorem wq_X8_applyJump : wp_X8_applyJump.all goodWord = true := wa_c rfl (wa_a (wa_a (by decide +kernel) (wa_V wq_X8_takeFor)) (wa_V wq_X8_takeReference))
theorem wt_X8_applyJump : GoodIn lw_tbl wp_X8_applyJump := wm_c (List.mem_of_getElem? (i := 815) (by decide +kernel)) rfl (wm_a (wm_a (goodIn_r _ [] (by decide +kernel) (by decide +kernel)) (wm_a (goodIn_r _ [804, 806, 26, 142] (by decide +kernel) (by decide +kernel)) wt_X8_takeFor)) (wm_a (goodIn_r _ [816, 818, 28, 142] (by decide +kernel) (by decide +kernel)) wt_X8_takeReference))
theorem wg_X8_applyJump_X8_takeFor_168 : GoodIn wp_X8_applyJump (wsV RX8 168 RX8 yX8_takeFor wp_X8_takeFor) := goodIn_sub (fun w h => List.mem_cons_of_mem _ (List.mem_append_left _ (List.mem_append_right _ h))) (wa_V wq_X8_takeFor)
theorem wg_X8_applyJump_X8_takeReference_196 : GoodIn wp_X8_applyJump (wsV RX8 196 RX8 yX8_takeReference wp_X8_takeReference) := goodIn_sub (fun w h => List.mem_cons_of_mem _ (List.mem_append_right _ h)) (wa_V wq_X8_takeReference)
set_option maxHeartbeats 4000000 in
set_option maxRecDepth 100000 in
theorem c_X8_applyJump (l : Launch) (D : va_G) (sz t0 : Nat) (σ : sm_S) (α : sm_A) (p1 : Int32) (K : sm_S → Prop) (hF : mp_X8_applyJump σ p1 K) : Met l yX8_applyJump wp_X8_applyJump { frames := 2, cells := 0, slots := 0, locals := 48 } (sm_P sm_wX sm_tX 37 D sz t0 σ α [.ref (α.1 8), .int p1]) (va_Qv K (sm_B sm_wX D α) (sm_a α 37 sz)) 0 0 (sm_a α 37 sz) := by
  refine Met.ofW (cc := cX8_applyJump) (maxL := 2) (ret := none) (by decide) rfl ?_
  intro p e s m args below meth c s₁ B hml hv
  obtain ⟨rfl, hsz, hP, hK, hD0, hE⟩ := hv
  have hx := B.exec
  have hb := B.bytes
  have hr := B.returns
  have hts := atoms_spec (ws := wp_X8_applyJump) B.pre
  have hown : s.vm.findClass RX8 = some m.cls := findClass_of_methodNamed B.named
  have hlocks := B.notSynchronized
  subst hsz
  have hD : sm_D (sm_a α 37 s.heap.size) α 37 := hD0.own
  have hA : ∀ q : Nat, s.heap.size ≤ q → sm_a α 37 s.heap.size q := fun q h => Or.inr h
  generalize hAe : sm_a α 37 s.heap.size = A at hD hA hE ⊢
  have hS : va_S A s.heap s.heap [] := va_S.rf
  have hl := lv_entry ([.ref (α.1 8), .int p1]) (n := 2) (Nat.le_of_ble_eq_true rfl)
  rw [lg_entry_eq]
  generalize (lg_sl ([.ref (α.1 8), .int p1]) ++ List.replicate (2 - (lg_sl ([.ref (α.1 8), .int p1])).length) Slot.unset).toArray = ls at hl ⊢
  have hl : lv_has ls 2 [(0, .ref (α.1 8)), (1, .int p1)] := hl
  have B79 : ∀ (σ : sm_S), mp_X8_applyJump_79 K σ → sm_J p l e (headSpec wp_X8_applyJump { frames := 2, cells := 0, slots := 0, locals := 48 }).room s m ([.ref (α.1 8), .int p1] : List Value).toArray below meth c (MQ below (va_Qv K (sm_B sm_wX D α) A) ([.ref (α.1 8), .int p1] : List Value).toArray s 0 0 A) D A 2 (sm_wX σ α) 79 [] [] := by
    intro σ hF H locs ls hP hS hl
    unfold mp_X8_applyJump_79 at hF
    exact W.vret hx hb hr (fun t ht hW => ⟨⟨σ, rfl, hF, (by unfold sm_B; rw [ht]; exact hP)⟩, hS.F ht⟩) hS.2.2 dX8_applyJump_79
  unfold mp_X8_applyJump at hF
  revert hP hS
  generalize hLo : ([] : List Loc) = locs
  suffices h9 : ∀ (H : Heap) (locs : List Loc), va_P D vwCl (sm_wX σ α) H → va_S A s.heap H locs → W p l e (headSpec wp_X8_applyJump { frames := 2, cells := 0, slots := 0, locals := 48 }).room s m ([.ref (α.1 8), .int p1] : List Value).toArray below meth c H locs 0 0 (MQ below (va_Qv K (sm_B sm_wX D α) A) ([.ref (α.1 8), .int p1] : List Value).toArray s 0 0 A) (F0 m 0 ls []) from fun hP hS => h9 s.heap locs hP hS
  intro H locs hP hS
  refine lv_iload_n hx hb dX8_applyJump_0 rfl (lv_at hl 1 rfl) ?_
  by_cases h1 : p1 = 19
  · refine lv_tableIn (tgt := 40) hx hb dX8_applyJump_1 (by rw [h1]; decide) (by rw [h1]; decide) (by rw [h1]; rfl) (by decide) ?_
    replace hF := hF.1 h1
    refine lv_aload_n hx hb dX8_applyJump_40 rfl (lv_at hl 0 rfl) ?_
    refine lv_iconst (v := 0) hx hb dX8_applyJump_41 (by decide) ?_
    refine sm_vv (As := [.int 0]) (rest := []) hP hK hD hE hS hA ⟨hx, hb, hml, hown, hts⟩ hl.1 (c_X8_takeFor l D H.size t0 σ α 0 _ hF) (cwV 1 hts wg_X8_applyJump_X8_takeFor_168 rfl rfl rfl (by decide +kernel) ⟨Nat.le_of_ble_eq_true rfl, Nat.le_of_ble_eq_true rfl⟩) (va_recv hK hP (ci := 8) (q0 := 8) rfl (sm_gX8 σ α)) rfl rfl (Nat.le_of_ble_eq_true rfl) dX8_applyJump_42 ⟨Nat.zero_le _, Nat.zero_le _⟩ (fun σ2 H locs hF hP hS => ?_)
    refine lv_goto (tgt := 79) hx hb dX8_applyJump_45 (by decide) ?_
    exact B79 σ2 hF H locs ls hP hS (lv_sub hl [] rfl)
  by_cases h3 : p1 = 20
  · refine lv_tableIn (tgt := 48) hx hb dX8_applyJump_1 (by rw [h3]; decide) (by rw [h3]; decide) (by rw [h3]; rfl) (by decide) ?_
    replace hF := hF.2.1 h3
    refine lv_aload_n hx hb dX8_applyJump_48 rfl (lv_at hl 0 rfl) ?_
    refine lv_iconst (v := 0) hx hb dX8_applyJump_49 (by decide) ?_
    refine sm_vv (As := [.int 0]) (rest := []) hP hK hD hE hS hA ⟨hx, hb, hml, hown, hts⟩ hl.1 (c_X8_takeFor l D H.size t0 σ α 0 _ hF) (cwV 1 hts wg_X8_applyJump_X8_takeFor_168 rfl rfl rfl (by decide +kernel) ⟨Nat.le_of_ble_eq_true rfl, Nat.le_of_ble_eq_true rfl⟩) (va_recv hK hP (ci := 8) (q0 := 8) rfl (sm_gX8 σ α)) rfl rfl (Nat.le_of_ble_eq_true rfl) dX8_applyJump_50 ⟨Nat.zero_le _, Nat.zero_le _⟩ (fun σ4 H locs hF hP hS => ?_)
    refine lv_aload_n hx hb dX8_applyJump_53 rfl (lv_at hl 0 rfl) ?_
    refine lv_iconst (v := 0) hx hb dX8_applyJump_54 (by decide) ?_
    refine sm_vv (As := [.int 0]) (rest := []) hP hK hD hE hS hA ⟨hx, hb, hml, hown, hts⟩ hl.1 (c_X8_takeFor l D H.size t0 σ4 α 0 _ hF) (cwV 1 hts wg_X8_applyJump_X8_takeFor_168 rfl rfl rfl (by decide +kernel) ⟨Nat.le_of_ble_eq_true rfl, Nat.le_of_ble_eq_true rfl⟩) (va_recv hK hP (ci := 8) (q0 := 8) rfl (sm_gX8 σ4 α)) rfl rfl (Nat.le_of_ble_eq_true rfl) dX8_applyJump_55 ⟨Nat.zero_le _, Nat.zero_le _⟩ (fun σ5 H locs hF hP hS => ?_)
    refine lv_goto (tgt := 79) hx hb dX8_applyJump_58 (by decide) ?_
    exact B79 σ5 hF H locs ls hP hS (lv_sub hl [] rfl)
  by_cases h6 : p1 = 21
  · refine lv_tableIn (tgt := 61) hx hb dX8_applyJump_1 (by rw [h6]; decide) (by rw [h6]; decide) (by rw [h6]; rfl) (by decide) ?_
    replace hF := hF.2.2.1 h6
    refine lv_aload_n hx hb dX8_applyJump_61 rfl (lv_at hl 0 rfl) ?_
    refine sm_vv (As := []) (rest := []) hP hK hD hE hS hA ⟨hx, hb, hml, hown, hts⟩ hl.1 (c_X8_takeReference l D H.size t0 σ α _ hF) (cwV 0 hts wg_X8_applyJump_X8_takeReference_196 rfl rfl rfl (by decide +kernel) ⟨Nat.le_of_ble_eq_true rfl, Nat.le_of_ble_eq_true rfl⟩) (va_recv hK hP (ci := 8) (q0 := 8) rfl (sm_gX8 σ α)) rfl rfl (Nat.le_of_ble_eq_true rfl) dX8_applyJump_62 ⟨Nat.zero_le _, Nat.zero_le _⟩ (fun σ7 H locs hF hP hS => ?_)
    refine lv_goto (tgt := 79) hx hb dX8_applyJump_65 (by decide) ?_
    exact B79 σ7 hF H locs ls hP hS (lv_sub hl [] rfl)
  by_cases h8 : p1 = 22
  · refine lv_tableIn (tgt := 61) hx hb dX8_applyJump_1 (by rw [h8]; decide) (by rw [h8]; decide) (by rw [h8]; rfl) (by decide) ?_
    replace hF := hF.2.2.2.1 h8
    refine lv_aload_n hx hb dX8_applyJump_61 rfl (lv_at hl 0 rfl) ?_
    refine sm_vv (As := []) (rest := []) hP hK hD hE hS hA ⟨hx, hb, hml, hown, hts⟩ hl.1 (c_X8_takeReference l D H.size t0 σ α _ hF) (cwV 0 hts wg_X8_applyJump_X8_takeReference_196 rfl rfl rfl (by decide +kernel) ⟨Nat.le_of_ble_eq_true rfl, Nat.le_of_ble_eq_true rfl⟩) (va_recv hK hP (ci := 8) (q0 := 8) rfl (sm_gX8 σ α)) rfl rfl (Nat.le_of_ble_eq_true rfl) dX8_applyJump_62 ⟨Nat.zero_le _, Nat.zero_le _⟩ (fun σ9 H locs hF hP hS => ?_)
    refine lv_goto (tgt := 79) hx hb dX8_applyJump_65 (by decide) ?_
    exact B79 σ9 hF H locs ls hP hS (lv_sub hl [] rfl)
  by_cases h10 : p1 = 23
  · refine lv_tableIn (tgt := 68) hx hb dX8_applyJump_1 (by rw [h10]; decide) (by rw [h10]; decide) (by rw [h10]; rfl) (by decide) ?_
    replace hF := hF.2.2.2.2.1 h10
    refine lv_aload_n hx hb dX8_applyJump_68 rfl (lv_at hl 0 rfl) ?_
    refine sm_vv (As := []) (rest := []) hP hK hD hE hS hA ⟨hx, hb, hml, hown, hts⟩ hl.1 (c_X8_takeReference l D H.size t0 σ α _ hF) (cwV 0 hts wg_X8_applyJump_X8_takeReference_196 rfl rfl rfl (by decide +kernel) ⟨Nat.le_of_ble_eq_true rfl, Nat.le_of_ble_eq_true rfl⟩) (va_recv hK hP (ci := 8) (q0 := 8) rfl (sm_gX8 σ α)) rfl rfl (Nat.le_of_ble_eq_true rfl) dX8_applyJump_69 ⟨Nat.zero_le _, Nat.zero_le _⟩ (fun σ11 H locs hF hP hS => ?_)
    refine lv_aload_n hx hb dX8_applyJump_72 rfl (lv_at hl 0 rfl) ?_
    refine sm_vv (As := []) (rest := []) hP hK hD hE hS hA ⟨hx, hb, hml, hown, hts⟩ hl.1 (c_X8_takeReference l D H.size t0 σ11 α _ hF) (cwV 0 hts wg_X8_applyJump_X8_takeReference_196 rfl rfl rfl (by decide +kernel) ⟨Nat.le_of_ble_eq_true rfl, Nat.le_of_ble_eq_true rfl⟩) (va_recv hK hP (ci := 8) (q0 := 8) rfl (sm_gX8 σ11 α)) rfl rfl (Nat.le_of_ble_eq_true rfl) dX8_applyJump_73 ⟨Nat.zero_le _, Nat.zero_le _⟩ (fun σ12 H locs hF hP hS => ?_)
    refine lv_goto (tgt := 79) hx hb dX8_applyJump_76 (by decide) ?_
    exact B79 σ12 hF H locs ls hP hS (lv_sub hl [] rfl)
  by_cases h13 : p1 = 24
  · refine lv_tableIn (tgt := 68) hx hb dX8_applyJump_1 (by rw [h13]; decide) (by rw [h13]; decide) (by rw [h13]; rfl) (by decide) ?_
    replace hF := hF.2.2.2.2.2.1 h13
    refine lv_aload_n hx hb dX8_applyJump_68 rfl (lv_at hl 0 rfl) ?_
    refine sm_vv (As := []) (rest := []) hP hK hD hE hS hA ⟨hx, hb, hml, hown, hts⟩ hl.1 (c_X8_takeReference l D H.size t0 σ α _ hF) (cwV 0 hts wg_X8_applyJump_X8_takeReference_196 rfl rfl rfl (by decide +kernel) ⟨Nat.le_of_ble_eq_true rfl, Nat.le_of_ble_eq_true rfl⟩) (va_recv hK hP (ci := 8) (q0 := 8) rfl (sm_gX8 σ α)) rfl rfl (Nat.le_of_ble_eq_true rfl) dX8_applyJump_69 ⟨Nat.zero_le _, Nat.zero_le _⟩ (fun σ14 H locs hF hP hS => ?_)
    refine lv_aload_n hx hb dX8_applyJump_72 rfl (lv_at hl 0 rfl) ?_
    refine sm_vv (As := []) (rest := []) hP hK hD hE hS hA ⟨hx, hb, hml, hown, hts⟩ hl.1 (c_X8_takeReference l D H.size t0 σ14 α _ hF) (cwV 0 hts wg_X8_applyJump_X8_takeReference_196 rfl rfl rfl (by decide +kernel) ⟨Nat.le_of_ble_eq_true rfl, Nat.le_of_ble_eq_true rfl⟩) (va_recv hK hP (ci := 8) (q0 := 8) rfl (sm_gX8 σ14 α)) rfl rfl (Nat.le_of_ble_eq_true rfl) dX8_applyJump_73 ⟨Nat.zero_le _, Nat.zero_le _⟩ (fun σ15 H locs hF hP hS => ?_)
    refine lv_goto (tgt := 79) hx hb dX8_applyJump_76 (by decide) ?_
    exact B79 σ15 hF H locs ls hP hS (lv_sub hl [] rfl)
  refine lv_tableOut (tgt := 79) hx hb dX8_applyJump_1 (by have q0 := lv_neT h1 (show Int32.toInt 19 = 19 by decide); have q1 := lv_neT h3 (show Int32.toInt 20 = 20 by decide); have q2 := lv_neT h6 (show Int32.toInt 21 = 21 by decide); have q3 := lv_neT h8 (show Int32.toInt 22 = 22 by decide); have q4 := lv_neT h10 (show Int32.toInt 23 = 23 by decide); have q5 := lv_neT h13 (show Int32.toInt 24 = 24 by decide); omega) (by decide) ?_
  replace hF := hF.2.2.2.2.2.2 h1 h3 h6 h8 h10 h13
  exact B79 σ hF H locs ls hP hS (lv_sub hl [] rfl)
theorem dX8_applyMove_0 : decode cX8_applyMove 0 = .ok (.iload_n 1, 1) := by decide +kernel
theorem dX8_applyMove_1 : decode cX8_applyMove 1 = .ok (.tableswitch 128 0 5 #[39, 47, 56, 89, 102, 110], 39) := by decide +kernel
theorem dX8_applyMove_40 : decode cX8_applyMove 40 = .ok (.aload_n 0, 1) := by decide +kernel
theorem dX8_applyMove_41 : decode cX8_applyMove 41 = .ok (.iconst 0, 1) := by decide +kernel
theorem dX8_applyMove_42 : decode cX8_applyMove 42 = .ok (.invokevirtual 171, 3) := by decide +kernel
theorem dX8_applyMove_45 : decode cX8_applyMove 45 = .ok (.goto 108, 3) := by decide +kernel
theorem dX8_applyMove_48 : decode cX8_applyMove 48 = .ok (.aload_n 0, 1) := by decide +kernel
theorem dX8_applyMove_49 : decode cX8_applyMove 49 = .ok (.bipush 97, 2) := by decide +kernel
theorem dX8_applyMove_51 : decode cX8_applyMove 51 = .ok (.invokevirtual 171, 3) := by decide +kernel
theorem dX8_applyMove_54 : decode cX8_applyMove 54 = .ok (.goto 99, 3) := by decide +kernel
theorem dX8_applyMove_57 : decode cX8_applyMove 57 = .ok (.aload_n 0, 1) := by decide +kernel
theorem dX8_applyMove_58 : decode cX8_applyMove 58 = .ok (.aload_n 0, 1) := by decide +kernel
theorem dX8_applyMove_59 : decode cX8_applyMove 59 = .ok (.getfield 22, 3) := by decide +kernel
theorem dX8_applyMove_62 : decode cX8_applyMove 62 = .ok (.iload_n 2, 1) := by decide +kernel
theorem dX8_applyMove_63 : decode cX8_applyMove 63 = .ok (.iaload, 1) := by decide +kernel
theorem dX8_applyMove_64 : decode cX8_applyMove 64 = .ok (.bipush 99, 2) := by decide +kernel
theorem dX8_applyMove_66 : decode cX8_applyMove 66 = .ok (.if_icmp .eq 7, 3) := by decide +kernel
theorem dX8_applyMove_69 : decode cX8_applyMove 69 = .ok (.iconst 1, 1) := by decide +kernel
theorem dX8_applyMove_70 : decode cX8_applyMove 70 = .ok (.goto 4, 3) := by decide +kernel
theorem dX8_applyMove_73 : decode cX8_applyMove 73 = .ok (.iconst 0, 1) := by decide +kernel
theorem dX8_applyMove_74 : decode cX8_applyMove 74 = .ok (.putfield 111, 3) := by decide +kernel
theorem dX8_applyMove_77 : decode cX8_applyMove 77 = .ok (.aload_n 0, 1) := by decide +kernel
theorem dX8_applyMove_78 : decode cX8_applyMove 78 = .ok (.aload_n 0, 1) := by decide +kernel
theorem dX8_applyMove_79 : decode cX8_applyMove 79 = .ok (.getfield 22, 3) := by decide +kernel
theorem dX8_applyMove_82 : decode cX8_applyMove 82 = .ok (.iload_n 2, 1) := by decide +kernel
theorem dX8_applyMove_83 : decode cX8_applyMove 83 = .ok (.iaload, 1) := by decide +kernel
theorem dX8_applyMove_84 : decode cX8_applyMove 84 = .ok (.invokevirtual 171, 3) := by decide +kernel
theorem dX8_applyMove_87 : decode cX8_applyMove 87 = .ok (.goto 66, 3) := by decide +kernel
theorem dX8_applyMove_90 : decode cX8_applyMove 90 = .ok (.aload_n 0, 1) := by decide +kernel
theorem dX8_applyMove_91 : decode cX8_applyMove 91 = .ok (.getfield 22, 3) := by decide +kernel
theorem dX8_applyMove_94 : decode cX8_applyMove 94 = .ok (.iload_n 2, 1) := by decide +kernel
theorem dX8_applyMove_95 : decode cX8_applyMove 95 = .ok (.aload_n 0, 1) := by decide +kernel
theorem dX8_applyMove_96 : decode cX8_applyMove 96 = .ok (.invokevirtual 159, 3) := by decide +kernel
theorem dX8_applyMove_99 : decode cX8_applyMove 99 = .ok (.iastore, 1) := by decide +kernel
theorem dX8_applyMove_100 : decode cX8_applyMove 100 = .ok (.goto 53, 3) := by decide +kernel
theorem dX8_applyMove_103 : decode cX8_applyMove 103 = .ok (.aload_n 0, 1) := by decide +kernel
theorem dX8_applyMove_104 : decode cX8_applyMove 104 = .ok (.invokevirtual 159, 3) := by decide +kernel
theorem dX8_applyMove_107 : decode cX8_applyMove 107 = .ok (.pop, 1) := by decide +kernel
theorem dX8_applyMove_108 : decode cX8_applyMove 108 = .ok (.goto 45, 3) := by decide +kernel
theorem dX8_applyMove_111 : decode cX8_applyMove 111 = .ok (.aload_n 0, 1) := by decide +kernel
theorem dX8_applyMove_112 : decode cX8_applyMove 112 = .ok (.invokevirtual 159, 3) := by decide +kernel
theorem dX8_applyMove_115 : decode cX8_applyMove 115 = .ok (.istore_n 3, 1) := by decide +kernel
theorem dX8_applyMove_116 : decode cX8_applyMove 116 = .ok (.aload_n 0, 1) := by decide +kernel
theorem dX8_applyMove_117 : decode cX8_applyMove 117 = .ok (.iload_n 3, 1) := by decide +kernel
theorem dX8_applyMove_118 : decode cX8_applyMove 118 = .ok (.invokevirtual 171, 3) := by decide +kernel
theorem dX8_applyMove_121 : decode cX8_applyMove 121 = .ok (.aload_n 0, 1) := by decide +kernel
theorem dX8_applyMove_122 : decode cX8_applyMove 122 = .ok (.iload_n 3, 1) := by decide +kernel
theorem dX8_applyMove_123 : decode cX8_applyMove 123 = .ok (.invokevirtual 171, 3) := by decide +kernel
theorem dX8_applyMove_126 : decode cX8_applyMove 126 = .ok (.goto 27, 3) := by decide +kernel
theorem dX8_applyMove_129 : decode cX8_applyMove 129 = .ok (.aload_n 0, 1) := by decide +kernel
theorem dX8_applyMove_130 : decode cX8_applyMove 130 = .ok (.invokevirtual 159, 3) := by decide +kernel
theorem dX8_applyMove_133 : decode cX8_applyMove 133 = .ok (.istore 4, 2) := by decide +kernel
theorem dX8_applyMove_135 : decode cX8_applyMove 135 = .ok (.aload_n 0, 1) := by decide +kernel
theorem dX8_applyMove_136 : decode cX8_applyMove 136 = .ok (.invokevirtual 159, 3) := by decide +kernel
theorem dX8_applyMove_139 : decode cX8_applyMove 139 = .ok (.istore 5, 2) := by decide +kernel
theorem dX8_applyMove_141 : decode cX8_applyMove 141 = .ok (.aload_n 0, 1) := by decide +kernel
theorem dX8_applyMove_142 : decode cX8_applyMove 142 = .ok (.iload 4, 2) := by decide +kernel
theorem dX8_applyMove_144 : decode cX8_applyMove 144 = .ok (.invokevirtual 171, 3) := by decide +kernel
theorem dX8_applyMove_147 : decode cX8_applyMove 147 = .ok (.aload_n 0, 1) := by decide +kernel
theorem dX8_applyMove_148 : decode cX8_applyMove 148 = .ok (.iload 5, 2) := by decide +kernel
theorem dX8_applyMove_150 : decode cX8_applyMove 150 = .ok (.invokevirtual 171, 3) := by decide +kernel
theorem dX8_applyMove_153 : decode cX8_applyMove 153 = .ok (.return_, 1) := by decide +kernel
def wp_X8_applyMove : List Cond := .code yX8_applyMove cX8_applyMove 6 none :: ((([.fieldLink RX8 111 "SteadyMachine$Verifier" "fits" "Z", .fieldLink RX8 22 "SteadyMachine$Verifier" "now" "[I"] ++ (wsV RX8 171 RX8 yX8_push wp_X8_push)) ++ (wsV RX8 159 RX8 yX8_take wp_X8_take)) ++ wsX80)
theorem wq_X8_applyMove : wp_X8_applyMove.all goodWord = true := wa_c rfl (wa_a (wa_a (wa_a (by decide +kernel) (wa_V wq_X8_push)) (wa_V wq_X8_take)) uq_X8)
theorem wt_X8_applyMove : GoodIn lw_tbl wp_X8_applyMove := wm_c (List.mem_of_getElem? (i := 795) (by decide +kernel)) rfl (wm_a (wm_a (wm_a (goodIn_r _ [386, 381] (by decide +kernel) (by decide +kernel)) (wm_a (goodIn_r _ [796, 798, 24, 142] (by decide +kernel) (by decide +kernel)) wt_X8_push)) (wm_a (goodIn_r _ [800, 802, 25, 142] (by decide +kernel) (by decide +kernel)) wt_X8_take)) ut_X8)
theorem wg_X8_applyMove_X8_push_171 : GoodIn wp_X8_applyMove (wsV RX8 171 RX8 yX8_push wp_X8_push) := goodIn_sub (fun w h => List.mem_cons_of_mem _ (List.mem_append_left _ (List.mem_append_left _ (List.mem_append_right _ h)))) (wa_V wq_X8_push)
theorem wg_X8_applyMove_X8_take_159 : GoodIn wp_X8_applyMove (wsV RX8 159 RX8 yX8_take wp_X8_take) := goodIn_sub (fun w h => List.mem_cons_of_mem _ (List.mem_append_left _ (List.mem_append_right _ h))) (wa_V wq_X8_take)
theorem wi_X8_applyMove_X8 : ∀ w ∈ wsX80, w ∈ wp_X8_applyMove := fun w h => List.mem_cons_of_mem _ (List.mem_append_right _ h)
set_option maxHeartbeats 4000000 in
set_option maxRecDepth 100000 in
theorem c_X8_applyMove (l : Launch) (D : va_G) (sz t0 : Nat) (σ : sm_S) (α : sm_A) (p1 : Int32) (p2 : Int32) (K : sm_S → Prop) (hF : mp_X8_applyMove σ p1 p2 K) : Met l yX8_applyMove wp_X8_applyMove { frames := 1, cells := 0, slots := 0, locals := 21 } (sm_P sm_wX sm_tX 37 D sz t0 σ α [.ref (α.1 8), .int p1, .int p2]) (va_Qv K (sm_B sm_wX D α) (sm_a α 37 sz)) 0 0 (sm_a α 37 sz) := by
  refine Met.ofW (cc := cX8_applyMove) (maxL := 6) (ret := none) (by decide) rfl ?_
  intro p e s m args below meth c s₁ B hml hv
  obtain ⟨rfl, hsz, hP, hK, hD0, hE⟩ := hv
  have hx := B.exec
  have hb := B.bytes
  have hr := B.returns
  have hts := atoms_spec (ws := wp_X8_applyMove) B.pre
  have hown : s.vm.findClass RX8 = some m.cls := findClass_of_methodNamed B.named
  have hlocks := B.notSynchronized
  subst hsz
  have hD : sm_D (sm_a α 37 s.heap.size) α 37 := hD0.own
  have hA : ∀ q : Nat, s.heap.size ≤ q → sm_a α 37 s.heap.size q := fun q h => Or.inr h
  generalize hAe : sm_a α 37 s.heap.size = A at hD hA hE ⊢
  have hS : va_S A s.heap s.heap [] := va_S.rf
  have in_X8 : ∀ w ∈ wsX80, w ∈ wp_X8_applyMove := wi_X8_applyMove_X8
  have k_0 := hts (.fieldLink RX8 111 "SteadyMachine$Verifier" "fits" "Z") (by decide +kernel)
  have k_1 := hts (.fieldLink RX8 22 "SteadyMachine$Verifier" "now" "[I") (by decide +kernel)
  have hl := lv_entry ([.ref (α.1 8), .int p1, .int p2]) (n := 6) (Nat.le_of_ble_eq_true rfl)
  rw [lg_entry_eq]
  generalize (lg_sl ([.ref (α.1 8), .int p1, .int p2]) ++ List.replicate (6 - (lg_sl ([.ref (α.1 8), .int p1, .int p2])).length) Slot.unset).toArray = ls at hl ⊢
  have hl : lv_has ls 6 [(0, .ref (α.1 8)), (1, .int p1), (2, .int p2)] := hl
  have B153 : ∀ (σ : sm_S), mp_X8_applyMove_153 K σ → sm_J p l e (headSpec wp_X8_applyMove { frames := 1, cells := 0, slots := 0, locals := 21 }).room s m ([.ref (α.1 8), .int p1, .int p2] : List Value).toArray below meth c (MQ below (va_Qv K (sm_B sm_wX D α) A) ([.ref (α.1 8), .int p1, .int p2] : List Value).toArray s 0 0 A) D A 6 (sm_wX σ α) 153 [] [] := by
    intro σ hF H locs ls hP hS hl
    unfold mp_X8_applyMove_153 at hF
    exact W.vret hx hb hr (fun t ht hW => ⟨⟨σ, rfl, hF, (by unfold sm_B; rw [ht]; exact hP)⟩, hS.F ht⟩) hS.2.2 dX8_applyMove_153
  have B74 : ∀ (σ : sm_S) (x2 : Int32) (y1 : Int32), mp_X8_applyMove_74 K σ x2 y1 → sm_J p l e (headSpec wp_X8_applyMove { frames := 1, cells := 0, slots := 0, locals := 21 }).room s m ([.ref (α.1 8), .int p1, .int p2] : List Value).toArray below meth c (MQ below (va_Qv K (sm_B sm_wX D α) A) ([.ref (α.1 8), .int p1, .int p2] : List Value).toArray s 0 0 A) D A 6 (sm_wX σ α) 74 [(0, .ref (α.1 8)), (2, .int x2)] [.int y1, .ref (α.1 8)] := by
    intro σ x2 y1 hF H locs ls hP hS hl
    unfold mp_X8_applyMove_74 at hF
    obtain ⟨h1, hF⟩ := hF
    refine va_put (D := D) (ci := 8) (v := .int y1) (ty := .boolean) (C := RX8) (T := TX8) (N := 13) hx hb hts in_X8 tyX8 tyX8_ok nmX8 hown hK hP (hD.to (sm_wX_m _ _)) hS 8 (sm_gX8 σ α) rfl 11 (by decide) k_0 (fun _ h9 => h9) rfl (by decide +kernel) h1.1 h1.2 (Nat.le_of_ble_eq_true rfl) dX8_applyMove_74 (fun H locs hP _ hS => ?_)
    rw [sm_iX33] at hP
    obtain ⟨σ2, eσ2⟩ : ∃ x : sm_S, x = sm_i σ 33 y1 := ⟨_, rfl⟩
    replace hF := hF σ2 eσ2
    rw [← eσ2] at hP
    refine lv_aload_n hx hb dX8_applyMove_77 rfl (lv_at hl 0 rfl) ?_
    refine lv_aload_n hx hb dX8_applyMove_78 rfl (lv_at hl 0 rfl) ?_
    refine va_get (D := D) (ci := 8) (v := .ref (α.1 35)) (C := RX8) (T := TX8) (N := 13) hx hb hts in_X8 hown hK hP 8 (sm_gX8 σ2 α) rfl 6 (by decide) k_1 (fun _ h9 => h9) rfl dX8_applyMove_79 ?_
    refine lv_iload_n hx hb dX8_applyMove_82 rfl (lv_at hl 1 rfl) ?_
    obtain ⟨h3, hF⟩ := hF
    refine va_iald (n := (σ2.2.2.1 35)) (f := (σ2.2.2.2.1 35)) hx hb hK hP 35 24 (sm_aX35 σ2 α) (sm_yX35 α) h3 dX8_applyMove_83 ?_
    refine sm_vv (As := [.int ((σ2.2.2.2.1 35) x2.toNatClampNeg)]) (rest := []) hP hK hD hE hS hA ⟨hx, hb, hml, hown, hts⟩ hl.1 (c_X8_push l D H.size t0 σ2 α ((σ2.2.2.2.1 35) x2.toNatClampNeg) _ hF) (cwV 1 hts wg_X8_applyMove_X8_push_171 rfl rfl rfl (by decide +kernel) ⟨Nat.le_of_ble_eq_true rfl, Nat.le_of_ble_eq_true rfl⟩) (va_recv hK hP (ci := 8) (q0 := 8) rfl (sm_gX8 σ2 α)) rfl rfl (Nat.le_of_ble_eq_true rfl) dX8_applyMove_84 ⟨Nat.zero_le _, Nat.zero_le _⟩ (fun σ4 H locs hF hP hS => ?_)
    refine lv_goto (tgt := 153) hx hb dX8_applyMove_87 (by decide) ?_
    exact B153 σ4 hF H locs ls hP hS (lv_sub hl [] rfl)
  unfold mp_X8_applyMove at hF
  revert hP hS
  generalize hLo : ([] : List Loc) = locs
  suffices h9 : ∀ (H : Heap) (locs : List Loc), va_P D vwCl (sm_wX σ α) H → va_S A s.heap H locs → W p l e (headSpec wp_X8_applyMove { frames := 1, cells := 0, slots := 0, locals := 21 }).room s m ([.ref (α.1 8), .int p1, .int p2] : List Value).toArray below meth c H locs 0 0 (MQ below (va_Qv K (sm_B sm_wX D α) A) ([.ref (α.1 8), .int p1, .int p2] : List Value).toArray s 0 0 A) (F0 m 0 ls []) from fun hP hS => h9 s.heap locs hP hS
  intro H locs hP hS
  refine lv_iload_n hx hb dX8_applyMove_0 rfl (lv_at hl 1 rfl) ?_
  by_cases h5 : p1 = 0
  · refine lv_tableIn (tgt := 40) hx hb dX8_applyMove_1 (by rw [h5]; decide) (by rw [h5]; decide) (by rw [h5]; rfl) (by decide) ?_
    replace hF := hF.1 h5
    refine lv_aload_n hx hb dX8_applyMove_40 rfl (lv_at hl 0 rfl) ?_
    refine lv_iconst (v := 0) hx hb dX8_applyMove_41 (by decide) ?_
    refine sm_vv (As := [.int 0]) (rest := []) hP hK hD hE hS hA ⟨hx, hb, hml, hown, hts⟩ hl.1 (c_X8_push l D H.size t0 σ α 0 _ hF) (cwV 1 hts wg_X8_applyMove_X8_push_171 rfl rfl rfl (by decide +kernel) ⟨Nat.le_of_ble_eq_true rfl, Nat.le_of_ble_eq_true rfl⟩) (va_recv hK hP (ci := 8) (q0 := 8) rfl (sm_gX8 σ α)) rfl rfl (Nat.le_of_ble_eq_true rfl) dX8_applyMove_42 ⟨Nat.zero_le _, Nat.zero_le _⟩ (fun σ6 H locs hF hP hS => ?_)
    refine lv_goto (tgt := 153) hx hb dX8_applyMove_45 (by decide) ?_
    exact B153 σ6 hF H locs ls hP hS (lv_sub hl [] rfl)
  by_cases h7 : p1 = 1
  · refine lv_tableIn (tgt := 48) hx hb dX8_applyMove_1 (by rw [h7]; decide) (by rw [h7]; decide) (by rw [h7]; rfl) (by decide) ?_
    replace hF := hF.2.1 h7
    refine lv_aload_n hx hb dX8_applyMove_48 rfl (lv_at hl 0 rfl) ?_
    refine lv_bipush (v := 97) hx hb dX8_applyMove_49 (by decide) ?_
    refine sm_vv (As := [.int 97]) (rest := []) hP hK hD hE hS hA ⟨hx, hb, hml, hown, hts⟩ hl.1 (c_X8_push l D H.size t0 σ α 97 _ hF) (cwV 1 hts wg_X8_applyMove_X8_push_171 rfl rfl rfl (by decide +kernel) ⟨Nat.le_of_ble_eq_true rfl, Nat.le_of_ble_eq_true rfl⟩) (va_recv hK hP (ci := 8) (q0 := 8) rfl (sm_gX8 σ α)) rfl rfl (Nat.le_of_ble_eq_true rfl) dX8_applyMove_51 ⟨Nat.zero_le _, Nat.zero_le _⟩ (fun σ8 H locs hF hP hS => ?_)
    refine lv_goto (tgt := 153) hx hb dX8_applyMove_54 (by decide) ?_
    exact B153 σ8 hF H locs ls hP hS (lv_sub hl [] rfl)
  by_cases h9 : p1 = 2
  · refine lv_tableIn (tgt := 57) hx hb dX8_applyMove_1 (by rw [h9]; decide) (by rw [h9]; decide) (by rw [h9]; rfl) (by decide) ?_
    replace hF := hF.2.2.1 h9
    refine lv_aload_n hx hb dX8_applyMove_57 rfl (lv_at hl 0 rfl) ?_
    refine lv_aload_n hx hb dX8_applyMove_58 rfl (lv_at hl 0 rfl) ?_
    refine va_get (D := D) (ci := 8) (v := .ref (α.1 35)) (C := RX8) (T := TX8) (N := 13) hx hb hts in_X8 hown hK hP 8 (sm_gX8 σ α) rfl 6 (by decide) k_1 (fun _ h9 => h9) rfl dX8_applyMove_59 ?_
    refine lv_iload_n hx hb dX8_applyMove_62 rfl (lv_at hl 2 rfl) ?_
    obtain ⟨h10, hF⟩ := hF
    refine va_iald (n := (σ.2.2.1 35)) (f := (σ.2.2.2.1 35)) hx hb hK hP 35 24 (sm_aX35 σ α) (sm_yX35 α) h10 dX8_applyMove_63 ?_
    refine lv_bipush (v := 99) hx hb dX8_applyMove_64 (by decide) ?_
    refine lv_icmp_eq (tgt := 73) hx hb dX8_applyMove_66 (by decide) (fun h11 => ?_) (fun h11 => ?_)
    · replace hF := hF.1 h11
      refine lv_iconst (v := 0) hx hb dX8_applyMove_73 (by decide) ?_
      exact B74 σ p2 0 hF H locs ls hP hS (lv_sub hl [0, 2] rfl)
    · replace hF := hF.2 h11
      refine lv_iconst (v := 1) hx hb dX8_applyMove_69 (by decide) ?_
      refine lv_goto (tgt := 74) hx hb dX8_applyMove_70 (by decide) ?_
      exact B74 σ p2 1 hF H locs ls hP hS (lv_sub hl [0, 2] rfl)
  by_cases h12 : p1 = 3
  · refine lv_tableIn (tgt := 90) hx hb dX8_applyMove_1 (by rw [h12]; decide) (by rw [h12]; decide) (by rw [h12]; rfl) (by decide) ?_
    replace hF := hF.2.2.2.1 h12
    refine lv_aload_n hx hb dX8_applyMove_90 rfl (lv_at hl 0 rfl) ?_
    refine va_get (D := D) (ci := 8) (v := .ref (α.1 35)) (C := RX8) (T := TX8) (N := 13) hx hb hts in_X8 hown hK hP 8 (sm_gX8 σ α) rfl 6 (by decide) k_1 (fun _ h9 => h9) rfl dX8_applyMove_91 ?_
    refine lv_iload_n hx hb dX8_applyMove_94 rfl (lv_at hl 2 rfl) ?_
    refine lv_aload_n hx hb dX8_applyMove_95 rfl (lv_at hl 0 rfl) ?_
    refine sm_vi (As := []) (rest := [.int p2, .ref (α.1 35)]) hP hK hD hE hS hA ⟨hx, hb, hml, hown, hts⟩ hl.1 (c_X8_take l D H.size t0 σ α _ hF) (cwV 0 hts wg_X8_applyMove_X8_take_159 rfl rfl rfl (by decide +kernel) ⟨Nat.le_of_ble_eq_true rfl, Nat.le_of_ble_eq_true rfl⟩) (va_recv hK hP (ci := 8) (q0 := 8) rfl (sm_gX8 σ α)) rfl rfl (Nat.le_of_ble_eq_true rfl) dX8_applyMove_96 ⟨Nat.zero_le _, Nat.zero_le _⟩ (fun r14 σ13 H locs hF hP hS => ?_)
    obtain ⟨h15, hF⟩ := hF
    refine va_iast (n := (σ13.2.2.1 35)) (f := (σ13.2.2.2.1 35)) (x := r14) hx hb hK hP (hD.to (sm_wX_m _ _)) hS 35 24 (sm_aX35 σ13 α) (sm_yX35 α) h15 dX8_applyMove_99 (fun H locs hP _ hS => ?_)
    rw [sm_rX35] at hP
    obtain ⟨σ16, eσ16⟩ : ∃ x : sm_S, x = sm_r σ13 35 (upd (σ13.2.2.2.1 35) p2.toNatClampNeg r14) := ⟨_, rfl⟩
    replace hF := hF σ16 eσ16
    rw [← eσ16] at hP
    refine lv_goto (tgt := 153) hx hb dX8_applyMove_100 (by decide) ?_
    exact B153 σ16 hF H locs ls hP hS (lv_sub hl [] rfl)
  by_cases h17 : p1 = 4
  · refine lv_tableIn (tgt := 103) hx hb dX8_applyMove_1 (by rw [h17]; decide) (by rw [h17]; decide) (by rw [h17]; rfl) (by decide) ?_
    replace hF := hF.2.2.2.2.1 h17
    refine lv_aload_n hx hb dX8_applyMove_103 rfl (lv_at hl 0 rfl) ?_
    refine sm_vi (As := []) (rest := []) hP hK hD hE hS hA ⟨hx, hb, hml, hown, hts⟩ hl.1 (c_X8_take l D H.size t0 σ α _ hF) (cwV 0 hts wg_X8_applyMove_X8_take_159 rfl rfl rfl (by decide +kernel) ⟨Nat.le_of_ble_eq_true rfl, Nat.le_of_ble_eq_true rfl⟩) (va_recv hK hP (ci := 8) (q0 := 8) rfl (sm_gX8 σ α)) rfl rfl (Nat.le_of_ble_eq_true rfl) dX8_applyMove_104 ⟨Nat.zero_le _, Nat.zero_le _⟩ (fun r19 σ18 H locs hF hP hS => ?_)
    refine lv_pop hx hb dX8_applyMove_107 rfl ?_
    refine lv_goto (tgt := 153) hx hb dX8_applyMove_108 (by decide) ?_
    exact B153 σ18 hF H locs ls hP hS (lv_sub hl [] rfl)
  by_cases h20 : p1 = 5
  · refine lv_tableIn (tgt := 111) hx hb dX8_applyMove_1 (by rw [h20]; decide) (by rw [h20]; decide) (by rw [h20]; rfl) (by decide) ?_
    replace hF := hF.2.2.2.2.2.1 h20
    refine lv_aload_n hx hb dX8_applyMove_111 rfl (lv_at hl 0 rfl) ?_
    refine sm_vi (As := []) (rest := []) hP hK hD hE hS hA ⟨hx, hb, hml, hown, hts⟩ hl.1 (c_X8_take l D H.size t0 σ α _ hF) (cwV 0 hts wg_X8_applyMove_X8_take_159 rfl rfl rfl (by decide +kernel) ⟨Nat.le_of_ble_eq_true rfl, Nat.le_of_ble_eq_true rfl⟩) (va_recv hK hP (ci := 8) (q0 := 8) rfl (sm_gX8 σ α)) rfl rfl (Nat.le_of_ble_eq_true rfl) dX8_applyMove_112 ⟨Nat.zero_le _, Nat.zero_le _⟩ (fun r22 σ21 H locs hF hP hS => ?_)
    refine lv_istore_n (lv' := [(3, .int r22), (0, .ref (α.1 8)), (1, .int p1), (2, .int p2)]) hx hb dX8_applyMove_115 rfl hl (by decide) rfl (fun ls hl => ?_)
    refine lv_aload_n hx hb dX8_applyMove_116 rfl (lv_at hl 1 rfl) ?_
    refine lv_iload_n hx hb dX8_applyMove_117 rfl (lv_at hl 0 rfl) ?_
    refine sm_vv (As := [.int r22]) (rest := []) hP hK hD hE hS hA ⟨hx, hb, hml, hown, hts⟩ hl.1 (c_X8_push l D H.size t0 σ21 α r22 _ hF) (cwV 1 hts wg_X8_applyMove_X8_push_171 rfl rfl rfl (by decide +kernel) ⟨Nat.le_of_ble_eq_true rfl, Nat.le_of_ble_eq_true rfl⟩) (va_recv hK hP (ci := 8) (q0 := 8) rfl (sm_gX8 σ21 α)) rfl rfl (Nat.le_of_ble_eq_true rfl) dX8_applyMove_118 ⟨Nat.zero_le _, Nat.zero_le _⟩ (fun σ23 H locs hF hP hS => ?_)
    refine lv_aload_n hx hb dX8_applyMove_121 rfl (lv_at hl 1 rfl) ?_
    refine lv_iload_n hx hb dX8_applyMove_122 rfl (lv_at hl 0 rfl) ?_
    refine sm_vv (As := [.int r22]) (rest := []) hP hK hD hE hS hA ⟨hx, hb, hml, hown, hts⟩ hl.1 (c_X8_push l D H.size t0 σ23 α r22 _ hF) (cwV 1 hts wg_X8_applyMove_X8_push_171 rfl rfl rfl (by decide +kernel) ⟨Nat.le_of_ble_eq_true rfl, Nat.le_of_ble_eq_true rfl⟩) (va_recv hK hP (ci := 8) (q0 := 8) rfl (sm_gX8 σ23 α)) rfl rfl (Nat.le_of_ble_eq_true rfl) dX8_applyMove_123 ⟨Nat.zero_le _, Nat.zero_le _⟩ (fun σ24 H locs hF hP hS => ?_)
    refine lv_goto (tgt := 153) hx hb dX8_applyMove_126 (by decide) ?_
    exact B153 σ24 hF H locs ls hP hS (lv_sub hl [] rfl)
  refine lv_tableOut (tgt := 129) hx hb dX8_applyMove_1 (by have q0 := lv_neT h5 (show Int32.toInt 0 = 0 by decide); have q1 := lv_neT h7 (show Int32.toInt 1 = 1 by decide); have q2 := lv_neT h9 (show Int32.toInt 2 = 2 by decide); have q3 := lv_neT h12 (show Int32.toInt 3 = 3 by decide); have q4 := lv_neT h17 (show Int32.toInt 4 = 4 by decide); have q5 := lv_neT h20 (show Int32.toInt 5 = 5 by decide); omega) (by decide) ?_
  replace hF := hF.2.2.2.2.2.2 h5 h7 h9 h12 h17 h20
  refine lv_aload_n hx hb dX8_applyMove_129 rfl (lv_at hl 0 rfl) ?_
  refine sm_vi (As := []) (rest := []) hP hK hD hE hS hA ⟨hx, hb, hml, hown, hts⟩ hl.1 (c_X8_take l D H.size t0 σ α _ hF) (cwV 0 hts wg_X8_applyMove_X8_take_159 rfl rfl rfl (by decide +kernel) ⟨Nat.le_of_ble_eq_true rfl, Nat.le_of_ble_eq_true rfl⟩) (va_recv hK hP (ci := 8) (q0 := 8) rfl (sm_gX8 σ α)) rfl rfl (Nat.le_of_ble_eq_true rfl) dX8_applyMove_130 ⟨Nat.zero_le _, Nat.zero_le _⟩ (fun r26 σ25 H locs hF hP hS => ?_)
  refine lv_istore (lv' := [(4, .int r26), (0, .ref (α.1 8)), (1, .int p1), (2, .int p2)]) hx hb dX8_applyMove_133 hl (by decide) rfl (fun ls hl => ?_)
  refine lv_aload_n hx hb dX8_applyMove_135 rfl (lv_at hl 1 rfl) ?_
  refine sm_vi (As := []) (rest := []) hP hK hD hE hS hA ⟨hx, hb, hml, hown, hts⟩ hl.1 (c_X8_take l D H.size t0 σ25 α _ hF) (cwV 0 hts wg_X8_applyMove_X8_take_159 rfl rfl rfl (by decide +kernel) ⟨Nat.le_of_ble_eq_true rfl, Nat.le_of_ble_eq_true rfl⟩) (va_recv hK hP (ci := 8) (q0 := 8) rfl (sm_gX8 σ25 α)) rfl rfl (Nat.le_of_ble_eq_true rfl) dX8_applyMove_136 ⟨Nat.zero_le _, Nat.zero_le _⟩ (fun r28 σ27 H locs hF hP hS => ?_)
  refine lv_istore (lv' := [(5, .int r28), (4, .int r26), (0, .ref (α.1 8)), (1, .int p1), (2, .int p2)]) hx hb dX8_applyMove_139 hl (by decide) rfl (fun ls hl => ?_)
  refine lv_aload_n hx hb dX8_applyMove_141 rfl (lv_at hl 2 rfl) ?_
  refine lv_iload hx hb dX8_applyMove_142 (lv_at hl 1 rfl) ?_
  refine sm_vv (As := [.int r26]) (rest := []) hP hK hD hE hS hA ⟨hx, hb, hml, hown, hts⟩ hl.1 (c_X8_push l D H.size t0 σ27 α r26 _ hF) (cwV 1 hts wg_X8_applyMove_X8_push_171 rfl rfl rfl (by decide +kernel) ⟨Nat.le_of_ble_eq_true rfl, Nat.le_of_ble_eq_true rfl⟩) (va_recv hK hP (ci := 8) (q0 := 8) rfl (sm_gX8 σ27 α)) rfl rfl (Nat.le_of_ble_eq_true rfl) dX8_applyMove_144 ⟨Nat.zero_le _, Nat.zero_le _⟩ (fun σ29 H locs hF hP hS => ?_)
  refine lv_aload_n hx hb dX8_applyMove_147 rfl (lv_at hl 2 rfl) ?_
  refine lv_iload hx hb dX8_applyMove_148 (lv_at hl 0 rfl) ?_
  refine sm_vv (As := [.int r28]) (rest := []) hP hK hD hE hS hA ⟨hx, hb, hml, hown, hts⟩ hl.1 (c_X8_push l D H.size t0 σ29 α r28 _ hF) (cwV 1 hts wg_X8_applyMove_X8_push_171 rfl rfl rfl (by decide +kernel) ⟨Nat.le_of_ble_eq_true rfl, Nat.le_of_ble_eq_true rfl⟩) (va_recv hK hP (ci := 8) (q0 := 8) rfl (sm_gX8 σ29 α)) rfl rfl (Nat.le_of_ble_eq_true rfl) dX8_applyMove_150 ⟨Nat.zero_le _, Nat.zero_le _⟩ (fun σ30 H locs hF hP hS => ?_)
  exact B153 σ30 hF H locs ls hP hS (lv_sub hl [] rfl)
theorem dX8_applyObject_0 : decode cX8_applyObject 0 = .ok (.iload_n 1, 1) := by decide +kernel
theorem dX8_applyObject_1 : decode cX8_applyObject 1 = .ok (.tableswitch 109 26 29 #[31, 41, 69, 97], 31) := by decide +kernel
theorem dX8_applyObject_32 : decode cX8_applyObject 32 = .ok (.aload_n 0, 1) := by decide +kernel
theorem dX8_applyObject_33 : decode cX8_applyObject 33 = .ok (.iload_n 2, 1) := by decide +kernel
theorem dX8_applyObject_34 : decode cX8_applyObject 34 = .ok (.iconst 1, 1) := by decide +kernel
theorem dX8_applyObject_35 : decode cX8_applyObject 35 = .ok (.iadd, 1) := by decide +kernel
theorem dX8_applyObject_36 : decode cX8_applyObject 36 = .ok (.invokevirtual 171, 3) := by decide +kernel
theorem dX8_applyObject_39 : decode cX8_applyObject 39 = .ok (.goto 82, 3) := by decide +kernel
theorem dX8_applyObject_42 : decode cX8_applyObject 42 = .ok (.aload_n 0, 1) := by decide +kernel
theorem dX8_applyObject_43 : decode cX8_applyObject 43 = .ok (.iload_n 2, 1) := by decide +kernel
theorem dX8_applyObject_44 : decode cX8_applyObject 44 = .ok (.iconst 1, 1) := by decide +kernel
theorem dX8_applyObject_45 : decode cX8_applyObject 45 = .ok (.iadd, 1) := by decide +kernel
theorem dX8_applyObject_46 : decode cX8_applyObject 46 = .ok (.invokevirtual 168, 3) := by decide +kernel
theorem dX8_applyObject_49 : decode cX8_applyObject 49 = .ok (.aload_n 0, 1) := by decide +kernel
theorem dX8_applyObject_50 : decode cX8_applyObject 50 = .ok (.aload_n 0, 1) := by decide +kernel
theorem dX8_applyObject_51 : decode cX8_applyObject 51 = .ok (.getfield 36, 3) := by decide +kernel
theorem dX8_applyObject_54 : decode cX8_applyObject 54 = .ok (.getfield 199, 3) := by decide +kernel
theorem dX8_applyObject_57 : decode cX8_applyObject 57 = .ok (.iload_n 2, 1) := by decide +kernel
theorem dX8_applyObject_58 : decode cX8_applyObject 58 = .ok (.bipush 15, 2) := by decide +kernel
theorem dX8_applyObject_60 : decode cX8_applyObject 60 = .ok (.imul, 1) := by decide +kernel
theorem dX8_applyObject_61 : decode cX8_applyObject 61 = .ok (.iload_n 3, 1) := by decide +kernel
theorem dX8_applyObject_62 : decode cX8_applyObject 62 = .ok (.iadd, 1) := by decide +kernel
theorem dX8_applyObject_63 : decode cX8_applyObject 63 = .ok (.iaload, 1) := by decide +kernel
theorem dX8_applyObject_64 : decode cX8_applyObject 64 = .ok (.invokevirtual 171, 3) := by decide +kernel
theorem dX8_applyObject_67 : decode cX8_applyObject 67 = .ok (.goto 54, 3) := by decide +kernel
theorem dX8_applyObject_70 : decode cX8_applyObject 70 = .ok (.aload_n 0, 1) := by decide +kernel
theorem dX8_applyObject_71 : decode cX8_applyObject 71 = .ok (.aload_n 0, 1) := by decide +kernel
theorem dX8_applyObject_72 : decode cX8_applyObject 72 = .ok (.getfield 36, 3) := by decide +kernel
theorem dX8_applyObject_75 : decode cX8_applyObject 75 = .ok (.getfield 199, 3) := by decide +kernel
theorem dX8_applyObject_78 : decode cX8_applyObject 78 = .ok (.iload_n 2, 1) := by decide +kernel
theorem dX8_applyObject_79 : decode cX8_applyObject 79 = .ok (.bipush 15, 2) := by decide +kernel
theorem dX8_applyObject_81 : decode cX8_applyObject 81 = .ok (.imul, 1) := by decide +kernel
theorem dX8_applyObject_82 : decode cX8_applyObject 82 = .ok (.iload_n 3, 1) := by decide +kernel
theorem dX8_applyObject_83 : decode cX8_applyObject 83 = .ok (.iadd, 1) := by decide +kernel
theorem dX8_applyObject_84 : decode cX8_applyObject 84 = .ok (.iaload, 1) := by decide +kernel
theorem dX8_applyObject_85 : decode cX8_applyObject 85 = .ok (.invokevirtual 168, 3) := by decide +kernel
theorem dX8_applyObject_88 : decode cX8_applyObject 88 = .ok (.aload_n 0, 1) := by decide +kernel
theorem dX8_applyObject_89 : decode cX8_applyObject 89 = .ok (.iload_n 2, 1) := by decide +kernel
theorem dX8_applyObject_90 : decode cX8_applyObject 90 = .ok (.iconst 1, 1) := by decide +kernel
theorem dX8_applyObject_91 : decode cX8_applyObject 91 = .ok (.iadd, 1) := by decide +kernel
theorem dX8_applyObject_92 : decode cX8_applyObject 92 = .ok (.invokevirtual 168, 3) := by decide +kernel
theorem dX8_applyObject_95 : decode cX8_applyObject 95 = .ok (.goto 26, 3) := by decide +kernel
theorem dX8_applyObject_98 : decode cX8_applyObject 98 = .ok (.aload_n 0, 1) := by decide +kernel
theorem dX8_applyObject_99 : decode cX8_applyObject 99 = .ok (.invokevirtual 196, 3) := by decide +kernel
theorem dX8_applyObject_102 : decode cX8_applyObject 102 = .ok (.aload_n 0, 1) := by decide +kernel
theorem dX8_applyObject_103 : decode cX8_applyObject 103 = .ok (.iconst 0, 1) := by decide +kernel
theorem dX8_applyObject_104 : decode cX8_applyObject 104 = .ok (.invokevirtual 171, 3) := by decide +kernel
theorem dX8_applyObject_107 : decode cX8_applyObject 107 = .ok (.goto 14, 3) := by decide +kernel
theorem dX8_applyObject_110 : decode cX8_applyObject 110 = .ok (.aload_n 0, 1) := by decide +kernel
theorem dX8_applyObject_111 : decode cX8_applyObject 111 = .ok (.invokevirtual 196, 3) := by decide +kernel
theorem dX8_applyObject_114 : decode cX8_applyObject 114 = .ok (.aload_n 0, 1) := by decide +kernel
theorem dX8_applyObject_115 : decode cX8_applyObject 115 = .ok (.iload_n 2, 1) := by decide +kernel
theorem dX8_applyObject_116 : decode cX8_applyObject 116 = .ok (.iconst 1, 1) := by decide +kernel
theorem dX8_applyObject_117 : decode cX8_applyObject 117 = .ok (.iadd, 1) := by decide +kernel
theorem dX8_applyObject_118 : decode cX8_applyObject 118 = .ok (.invokevirtual 171, 3) := by decide +kernel
theorem dX8_applyObject_121 : decode cX8_applyObject 121 = .ok (.return_, 1) := by decide +kernel
def wp_X8_applyObject : List Cond := .code yX8_applyObject cX8_applyObject 4 none :: ((((([.fieldLink RX8 36 "SteadyMachine$Verifier" "classes" "LSteadyMachine$Classes;", .fieldLink RX8 199 "SteadyMachine$Classes" "fieldType" "[I"] ++ (wsV RX8 171 RX8 yX8_push wp_X8_push)) ++ (wsV RX8 168 RX8 yX8_takeFor wp_X8_takeFor)) ++ (wsV RX8 196 RX8 yX8_takeReference wp_X8_takeReference)) ++ wsX00) ++ wsX80)
theorem wq_X8_applyObject : wp_X8_applyObject.all goodWord = true := wa_c rfl (wa_a (wa_a (wa_a (wa_a (wa_a (by decide +kernel) (wa_V wq_X8_push)) (wa_V wq_X8_takeFor)) (wa_V wq_X8_takeReference)) uq_X0) uq_X8)
theorem wt_X8_applyObject : GoodIn lw_tbl wp_X8_applyObject := wm_c (List.mem_of_getElem? (i := 823) (by decide +kernel)) rfl (wm_a (wm_a (wm_a (wm_a (wm_a (goodIn_r _ [376, 185] (by decide +kernel) (by decide +kernel)) (wm_a (goodIn_r _ [796, 798, 24, 142] (by decide +kernel) (by decide +kernel)) wt_X8_push)) (wm_a (goodIn_r _ [804, 806, 26, 142] (by decide +kernel) (by decide +kernel)) wt_X8_takeFor)) (wm_a (goodIn_r _ [816, 818, 28, 142] (by decide +kernel) (by decide +kernel)) wt_X8_takeReference)) ut_X0) ut_X8)
theorem wg_X8_applyObject_X8_push_171 : GoodIn wp_X8_applyObject (wsV RX8 171 RX8 yX8_push wp_X8_push) := goodIn_sub (fun w h => List.mem_cons_of_mem _ (List.mem_append_left _ (List.mem_append_left _ (List.mem_append_left _ (List.mem_append_left _ (List.mem_append_right _ h)))))) (wa_V wq_X8_push)
theorem wg_X8_applyObject_X8_takeFor_168 : GoodIn wp_X8_applyObject (wsV RX8 168 RX8 yX8_takeFor wp_X8_takeFor) := goodIn_sub (fun w h => List.mem_cons_of_mem _ (List.mem_append_left _ (List.mem_append_left _ (List.mem_append_left _ (List.mem_append_right _ h))))) (wa_V wq_X8_takeFor)
theorem wg_X8_applyObject_X8_takeReference_196 : GoodIn wp_X8_applyObject (wsV RX8 196 RX8 yX8_takeReference wp_X8_takeReference) := goodIn_sub (fun w h => List.mem_cons_of_mem _ (List.mem_append_left _ (List.mem_append_left _ (List.mem_append_right _ h)))) (wa_V wq_X8_takeReference)
theorem wi_X8_applyObject_X0 : ∀ w ∈ wsX00, w ∈ wp_X8_applyObject := fun w h => List.mem_cons_of_mem _ (List.mem_append_left _ (List.mem_append_right _ h))
theorem wi_X8_applyObject_X8 : ∀ w ∈ wsX80, w ∈ wp_X8_applyObject := fun w h => List.mem_cons_of_mem _ (List.mem_append_right _ h)
set_option maxHeartbeats 4000000 in
set_option maxRecDepth 100000 in
theorem c_X8_applyObject (l : Launch) (D : va_G) (sz t0 : Nat) (σ : sm_S) (α : sm_A) (p1 : Int32) (p2 : Int32) (p3 : Int32) (K : sm_S → Prop) (hF : mp_X8_applyObject σ p1 p2 p3 K) : Met l yX8_applyObject wp_X8_applyObject { frames := 2, cells := 0, slots := 0, locals := 48 } (sm_P sm_wX sm_tX 37 D sz t0 σ α [.ref (α.1 8), .int p1, .int p2, .int p3]) (va_Qv K (sm_B sm_wX D α) (sm_a α 37 sz)) 0 0 (sm_a α 37 sz) := by
  refine Met.ofW (cc := cX8_applyObject) (maxL := 4) (ret := none) (by decide) rfl ?_
  intro p e s m args below meth c s₁ B hml hv
  obtain ⟨rfl, hsz, hP, hK, hD0, hE⟩ := hv
  have hx := B.exec
  have hb := B.bytes
  have hr := B.returns
  have hts := atoms_spec (ws := wp_X8_applyObject) B.pre
  have hown : s.vm.findClass RX8 = some m.cls := findClass_of_methodNamed B.named
  have hlocks := B.notSynchronized
  subst hsz
  have hD : sm_D (sm_a α 37 s.heap.size) α 37 := hD0.own
  have hA : ∀ q : Nat, s.heap.size ≤ q → sm_a α 37 s.heap.size q := fun q h => Or.inr h
  generalize hAe : sm_a α 37 s.heap.size = A at hD hA hE ⊢
  have hS : va_S A s.heap s.heap [] := va_S.rf
  have in_X0 : ∀ w ∈ wsX00, w ∈ wp_X8_applyObject := wi_X8_applyObject_X0
  have in_X8 : ∀ w ∈ wsX80, w ∈ wp_X8_applyObject := wi_X8_applyObject_X8
  have k_0 := hts (.fieldLink RX8 36 "SteadyMachine$Verifier" "classes" "LSteadyMachine$Classes;") (by decide +kernel)
  have k_1 := hts (.fieldLink RX8 199 "SteadyMachine$Classes" "fieldType" "[I") (by decide +kernel)
  have hl := lv_entry ([.ref (α.1 8), .int p1, .int p2, .int p3]) (n := 4) (Nat.le_of_ble_eq_true rfl)
  rw [lg_entry_eq]
  generalize (lg_sl ([.ref (α.1 8), .int p1, .int p2, .int p3]) ++ List.replicate (4 - (lg_sl ([.ref (α.1 8), .int p1, .int p2, .int p3])).length) Slot.unset).toArray = ls at hl ⊢
  have hl : lv_has ls 4 [(0, .ref (α.1 8)), (1, .int p1), (2, .int p2), (3, .int p3)] := hl
  have B121 : ∀ (σ : sm_S), mp_X8_applyObject_121 K σ → sm_J p l e (headSpec wp_X8_applyObject { frames := 2, cells := 0, slots := 0, locals := 48 }).room s m ([.ref (α.1 8), .int p1, .int p2, .int p3] : List Value).toArray below meth c (MQ below (va_Qv K (sm_B sm_wX D α) A) ([.ref (α.1 8), .int p1, .int p2, .int p3] : List Value).toArray s 0 0 A) D A 4 (sm_wX σ α) 121 [] [] := by
    intro σ hF H locs ls hP hS hl
    unfold mp_X8_applyObject_121 at hF
    exact W.vret hx hb hr (fun t ht hW => ⟨⟨σ, rfl, hF, (by unfold sm_B; rw [ht]; exact hP)⟩, hS.F ht⟩) hS.2.2 dX8_applyObject_121
  unfold mp_X8_applyObject at hF
  revert hP hS
  generalize hLo : ([] : List Loc) = locs
  suffices h9 : ∀ (H : Heap) (locs : List Loc), va_P D vwCl (sm_wX σ α) H → va_S A s.heap H locs → W p l e (headSpec wp_X8_applyObject { frames := 2, cells := 0, slots := 0, locals := 48 }).room s m ([.ref (α.1 8), .int p1, .int p2, .int p3] : List Value).toArray below meth c H locs 0 0 (MQ below (va_Qv K (sm_B sm_wX D α) A) ([.ref (α.1 8), .int p1, .int p2, .int p3] : List Value).toArray s 0 0 A) (F0 m 0 ls []) from fun hP hS => h9 s.heap locs hP hS
  intro H locs hP hS
  refine lv_iload_n hx hb dX8_applyObject_0 rfl (lv_at hl 1 rfl) ?_
  by_cases h1 : p1 = 26
  · refine lv_tableIn (tgt := 32) hx hb dX8_applyObject_1 (by rw [h1]; decide) (by rw [h1]; decide) (by rw [h1]; rfl) (by decide) ?_
    replace hF := hF.1 h1
    refine lv_aload_n hx hb dX8_applyObject_32 rfl (lv_at hl 0 rfl) ?_
    refine lv_iload_n hx hb dX8_applyObject_33 rfl (lv_at hl 2 rfl) ?_
    refine lv_iconst (v := 1) hx hb dX8_applyObject_34 (by decide) ?_
    refine lv_iadd hx hb dX8_applyObject_35 ?_
    refine sm_vv (As := [.int (p2 + 1)]) (rest := []) hP hK hD hE hS hA ⟨hx, hb, hml, hown, hts⟩ hl.1 (c_X8_push l D H.size t0 σ α (p2 + 1) _ hF) (cwV 1 hts wg_X8_applyObject_X8_push_171 rfl rfl rfl (by decide +kernel) ⟨Nat.le_of_ble_eq_true rfl, Nat.le_of_ble_eq_true rfl⟩) (va_recv hK hP (ci := 8) (q0 := 8) rfl (sm_gX8 σ α)) rfl rfl (Nat.le_of_ble_eq_true rfl) dX8_applyObject_36 ⟨Nat.zero_le _, Nat.zero_le _⟩ (fun σ2 H locs hF hP hS => ?_)
    refine lv_goto (tgt := 121) hx hb dX8_applyObject_39 (by decide) ?_
    exact B121 σ2 hF H locs ls hP hS (lv_sub hl [] rfl)
  by_cases h3 : p1 = 27
  · refine lv_tableIn (tgt := 42) hx hb dX8_applyObject_1 (by rw [h3]; decide) (by rw [h3]; decide) (by rw [h3]; rfl) (by decide) ?_
    replace hF := hF.2.1 h3
    refine lv_aload_n hx hb dX8_applyObject_42 rfl (lv_at hl 0 rfl) ?_
    refine lv_iload_n hx hb dX8_applyObject_43 rfl (lv_at hl 2 rfl) ?_
    refine lv_iconst (v := 1) hx hb dX8_applyObject_44 (by decide) ?_
    refine lv_iadd hx hb dX8_applyObject_45 ?_
    refine sm_vv (As := [.int (p2 + 1)]) (rest := []) hP hK hD hE hS hA ⟨hx, hb, hml, hown, hts⟩ hl.1 (c_X8_takeFor l D H.size t0 σ α (p2 + 1) _ hF) (cwV 1 hts wg_X8_applyObject_X8_takeFor_168 rfl rfl rfl (by decide +kernel) ⟨Nat.le_of_ble_eq_true rfl, Nat.le_of_ble_eq_true rfl⟩) (va_recv hK hP (ci := 8) (q0 := 8) rfl (sm_gX8 σ α)) rfl rfl (Nat.le_of_ble_eq_true rfl) dX8_applyObject_46 ⟨Nat.zero_le _, Nat.zero_le _⟩ (fun σ4 H locs hF hP hS => ?_)
    refine lv_aload_n hx hb dX8_applyObject_49 rfl (lv_at hl 0 rfl) ?_
    refine lv_aload_n hx hb dX8_applyObject_50 rfl (lv_at hl 0 rfl) ?_
    refine va_get (D := D) (ci := 8) (v := .ref (α.1 0)) (C := RX8) (T := TX8) (N := 13) hx hb hts in_X8 hown hK hP 8 (sm_gX8 σ4 α) rfl 1 (by decide) k_0 (fun _ h9 => h9) rfl dX8_applyObject_51 ?_
    refine va_get (D := D) (ci := 0) (v := .ref (α.1 13)) (C := RX0) (T := TX0) (N := 7) hx hb hts in_X0 hown hK hP 0 (sm_gX0 σ4 α) rfl 3 (by decide) k_1 (fun _ h9 => h9) rfl dX8_applyObject_54 ?_
    refine lv_iload_n hx hb dX8_applyObject_57 rfl (lv_at hl 2 rfl) ?_
    refine lv_bipush (v := 15) hx hb dX8_applyObject_58 (by decide) ?_
    refine lv_imul hx hb dX8_applyObject_60 ?_
    refine lv_iload_n hx hb dX8_applyObject_61 rfl (lv_at hl 3 rfl) ?_
    refine lv_iadd hx hb dX8_applyObject_62 ?_
    obtain ⟨h5, hF⟩ := hF
    refine va_iald (n := (σ4.2.2.1 13)) (f := (σ4.2.2.2.1 13)) hx hb hK hP 13 2 (sm_aX13 σ4 α) (sm_yX13 α) h5 dX8_applyObject_63 ?_
    refine sm_vv (As := [.int ((σ4.2.2.2.1 13) ((p2 * 15) + p3).toNatClampNeg)]) (rest := []) hP hK hD hE hS hA ⟨hx, hb, hml, hown, hts⟩ hl.1 (c_X8_push l D H.size t0 σ4 α ((σ4.2.2.2.1 13) ((p2 * 15) + p3).toNatClampNeg) _ hF) (cwV 1 hts wg_X8_applyObject_X8_push_171 rfl rfl rfl (by decide +kernel) ⟨Nat.le_of_ble_eq_true rfl, Nat.le_of_ble_eq_true rfl⟩) (va_recv hK hP (ci := 8) (q0 := 8) rfl (sm_gX8 σ4 α)) rfl rfl (Nat.le_of_ble_eq_true rfl) dX8_applyObject_64 ⟨Nat.zero_le _, Nat.zero_le _⟩ (fun σ6 H locs hF hP hS => ?_)
    refine lv_goto (tgt := 121) hx hb dX8_applyObject_67 (by decide) ?_
    exact B121 σ6 hF H locs ls hP hS (lv_sub hl [] rfl)
  by_cases h7 : p1 = 28
  · refine lv_tableIn (tgt := 70) hx hb dX8_applyObject_1 (by rw [h7]; decide) (by rw [h7]; decide) (by rw [h7]; rfl) (by decide) ?_
    replace hF := hF.2.2.1 h7
    refine lv_aload_n hx hb dX8_applyObject_70 rfl (lv_at hl 0 rfl) ?_
    refine lv_aload_n hx hb dX8_applyObject_71 rfl (lv_at hl 0 rfl) ?_
    refine va_get (D := D) (ci := 8) (v := .ref (α.1 0)) (C := RX8) (T := TX8) (N := 13) hx hb hts in_X8 hown hK hP 8 (sm_gX8 σ α) rfl 1 (by decide) k_0 (fun _ h9 => h9) rfl dX8_applyObject_72 ?_
    refine va_get (D := D) (ci := 0) (v := .ref (α.1 13)) (C := RX0) (T := TX0) (N := 7) hx hb hts in_X0 hown hK hP 0 (sm_gX0 σ α) rfl 3 (by decide) k_1 (fun _ h9 => h9) rfl dX8_applyObject_75 ?_
    refine lv_iload_n hx hb dX8_applyObject_78 rfl (lv_at hl 2 rfl) ?_
    refine lv_bipush (v := 15) hx hb dX8_applyObject_79 (by decide) ?_
    refine lv_imul hx hb dX8_applyObject_81 ?_
    refine lv_iload_n hx hb dX8_applyObject_82 rfl (lv_at hl 3 rfl) ?_
    refine lv_iadd hx hb dX8_applyObject_83 ?_
    obtain ⟨h8, hF⟩ := hF
    refine va_iald (n := (σ.2.2.1 13)) (f := (σ.2.2.2.1 13)) hx hb hK hP 13 2 (sm_aX13 σ α) (sm_yX13 α) h8 dX8_applyObject_84 ?_
    refine sm_vv (As := [.int ((σ.2.2.2.1 13) ((p2 * 15) + p3).toNatClampNeg)]) (rest := []) hP hK hD hE hS hA ⟨hx, hb, hml, hown, hts⟩ hl.1 (c_X8_takeFor l D H.size t0 σ α ((σ.2.2.2.1 13) ((p2 * 15) + p3).toNatClampNeg) _ hF) (cwV 1 hts wg_X8_applyObject_X8_takeFor_168 rfl rfl rfl (by decide +kernel) ⟨Nat.le_of_ble_eq_true rfl, Nat.le_of_ble_eq_true rfl⟩) (va_recv hK hP (ci := 8) (q0 := 8) rfl (sm_gX8 σ α)) rfl rfl (Nat.le_of_ble_eq_true rfl) dX8_applyObject_85 ⟨Nat.zero_le _, Nat.zero_le _⟩ (fun σ9 H locs hF hP hS => ?_)
    refine lv_aload_n hx hb dX8_applyObject_88 rfl (lv_at hl 0 rfl) ?_
    refine lv_iload_n hx hb dX8_applyObject_89 rfl (lv_at hl 2 rfl) ?_
    refine lv_iconst (v := 1) hx hb dX8_applyObject_90 (by decide) ?_
    refine lv_iadd hx hb dX8_applyObject_91 ?_
    refine sm_vv (As := [.int (p2 + 1)]) (rest := []) hP hK hD hE hS hA ⟨hx, hb, hml, hown, hts⟩ hl.1 (c_X8_takeFor l D H.size t0 σ9 α (p2 + 1) _ hF) (cwV 1 hts wg_X8_applyObject_X8_takeFor_168 rfl rfl rfl (by decide +kernel) ⟨Nat.le_of_ble_eq_true rfl, Nat.le_of_ble_eq_true rfl⟩) (va_recv hK hP (ci := 8) (q0 := 8) rfl (sm_gX8 σ9 α)) rfl rfl (Nat.le_of_ble_eq_true rfl) dX8_applyObject_92 ⟨Nat.zero_le _, Nat.zero_le _⟩ (fun σ10 H locs hF hP hS => ?_)
    refine lv_goto (tgt := 121) hx hb dX8_applyObject_95 (by decide) ?_
    exact B121 σ10 hF H locs ls hP hS (lv_sub hl [] rfl)
  by_cases h11 : p1 = 29
  · refine lv_tableIn (tgt := 98) hx hb dX8_applyObject_1 (by rw [h11]; decide) (by rw [h11]; decide) (by rw [h11]; rfl) (by decide) ?_
    replace hF := hF.2.2.2.1 h11
    refine lv_aload_n hx hb dX8_applyObject_98 rfl (lv_at hl 0 rfl) ?_
    refine sm_vv (As := []) (rest := []) hP hK hD hE hS hA ⟨hx, hb, hml, hown, hts⟩ hl.1 (c_X8_takeReference l D H.size t0 σ α _ hF) (cwV 0 hts wg_X8_applyObject_X8_takeReference_196 rfl rfl rfl (by decide +kernel) ⟨Nat.le_of_ble_eq_true rfl, Nat.le_of_ble_eq_true rfl⟩) (va_recv hK hP (ci := 8) (q0 := 8) rfl (sm_gX8 σ α)) rfl rfl (Nat.le_of_ble_eq_true rfl) dX8_applyObject_99 ⟨Nat.zero_le _, Nat.zero_le _⟩ (fun σ12 H locs hF hP hS => ?_)
    refine lv_aload_n hx hb dX8_applyObject_102 rfl (lv_at hl 0 rfl) ?_
    refine lv_iconst (v := 0) hx hb dX8_applyObject_103 (by decide) ?_
    refine sm_vv (As := [.int 0]) (rest := []) hP hK hD hE hS hA ⟨hx, hb, hml, hown, hts⟩ hl.1 (c_X8_push l D H.size t0 σ12 α 0 _ hF) (cwV 1 hts wg_X8_applyObject_X8_push_171 rfl rfl rfl (by decide +kernel) ⟨Nat.le_of_ble_eq_true rfl, Nat.le_of_ble_eq_true rfl⟩) (va_recv hK hP (ci := 8) (q0 := 8) rfl (sm_gX8 σ12 α)) rfl rfl (Nat.le_of_ble_eq_true rfl) dX8_applyObject_104 ⟨Nat.zero_le _, Nat.zero_le _⟩ (fun σ13 H locs hF hP hS => ?_)
    refine lv_goto (tgt := 121) hx hb dX8_applyObject_107 (by decide) ?_
    exact B121 σ13 hF H locs ls hP hS (lv_sub hl [] rfl)
  refine lv_tableOut (tgt := 110) hx hb dX8_applyObject_1 (by have q0 := lv_neT h1 (show Int32.toInt 26 = 26 by decide); have q1 := lv_neT h3 (show Int32.toInt 27 = 27 by decide); have q2 := lv_neT h7 (show Int32.toInt 28 = 28 by decide); have q3 := lv_neT h11 (show Int32.toInt 29 = 29 by decide); omega) (by decide) ?_
  replace hF := hF.2.2.2.2 h1 h3 h7 h11
  refine lv_aload_n hx hb dX8_applyObject_110 rfl (lv_at hl 0 rfl) ?_
  refine sm_vv (As := []) (rest := []) hP hK hD hE hS hA ⟨hx, hb, hml, hown, hts⟩ hl.1 (c_X8_takeReference l D H.size t0 σ α _ hF) (cwV 0 hts wg_X8_applyObject_X8_takeReference_196 rfl rfl rfl (by decide +kernel) ⟨Nat.le_of_ble_eq_true rfl, Nat.le_of_ble_eq_true rfl⟩) (va_recv hK hP (ci := 8) (q0 := 8) rfl (sm_gX8 σ α)) rfl rfl (Nat.le_of_ble_eq_true rfl) dX8_applyObject_111 ⟨Nat.zero_le _, Nat.zero_le _⟩ (fun σ14 H locs hF hP hS => ?_)
  refine lv_aload_n hx hb dX8_applyObject_114 rfl (lv_at hl 0 rfl) ?_
  refine lv_iload_n hx hb dX8_applyObject_115 rfl (lv_at hl 2 rfl) ?_
  refine lv_iconst (v := 1) hx hb dX8_applyObject_116 (by decide) ?_
  refine lv_iadd hx hb dX8_applyObject_117 ?_
  refine sm_vv (As := [.int (p2 + 1)]) (rest := []) hP hK hD hE hS hA ⟨hx, hb, hml, hown, hts⟩ hl.1 (c_X8_push l D H.size t0 σ14 α (p2 + 1) _ hF) (cwV 1 hts wg_X8_applyObject_X8_push_171 rfl rfl rfl (by decide +kernel) ⟨Nat.le_of_ble_eq_true rfl, Nat.le_of_ble_eq_true rfl⟩) (va_recv hK hP (ci := 8) (q0 := 8) rfl (sm_gX8 σ14 α)) rfl rfl (Nat.le_of_ble_eq_true rfl) dX8_applyObject_118 ⟨Nat.zero_le _, Nat.zero_le _⟩ (fun σ15 H locs hF hP hS => ?_)
  exact B121 σ15 hF H locs ls hP hS (lv_sub hl [] rfl)
theorem dX8_takeRow_0 : decode cX8_takeRow 0 = .ok (.aload_n 0, 1) := by decide +kernel
theorem dX8_takeRow_1 : decode cX8_takeRow 1 = .ok (.invokevirtual 159, 3) := by decide +kernel
theorem dX8_takeRow_4 : decode cX8_takeRow 4 = .ok (.istore_n 1, 1) := by decide +kernel
theorem dX8_takeRow_5 : decode cX8_takeRow 5 = .ok (.aload_n 0, 1) := by decide +kernel
theorem dX8_takeRow_6 : decode cX8_takeRow 6 = .ok (.aload_n 0, 1) := by decide +kernel
theorem dX8_takeRow_7 : decode cX8_takeRow 7 = .ok (.getfield 111, 3) := by decide +kernel
theorem dX8_takeRow_10 : decode cX8_takeRow 10 = .ok (.ifCond .eq 19, 3) := by decide +kernel
theorem dX8_takeRow_13 : decode cX8_takeRow 13 = .ok (.iload_n 1, 1) := by decide +kernel
theorem dX8_takeRow_14 : decode cX8_takeRow 14 = .ok (.bipush 64, 2) := by decide +kernel
theorem dX8_takeRow_16 : decode cX8_takeRow 16 = .ok (.if_icmp .lt 13, 3) := by decide +kernel
theorem dX8_takeRow_19 : decode cX8_takeRow 19 = .ok (.iload_n 1, 1) := by decide +kernel
theorem dX8_takeRow_20 : decode cX8_takeRow 20 = .ok (.bipush 97, 2) := by decide +kernel
theorem dX8_takeRow_22 : decode cX8_takeRow 22 = .ok (.if_icmp .gt 7, 3) := by decide +kernel
theorem dX8_takeRow_25 : decode cX8_takeRow 25 = .ok (.iconst 1, 1) := by decide +kernel
theorem dX8_takeRow_26 : decode cX8_takeRow 26 = .ok (.goto 4, 3) := by decide +kernel
theorem dX8_takeRow_29 : decode cX8_takeRow 29 = .ok (.iconst 0, 1) := by decide +kernel
theorem dX8_takeRow_30 : decode cX8_takeRow 30 = .ok (.putfield 111, 3) := by decide +kernel
theorem dX8_takeRow_33 : decode cX8_takeRow 33 = .ok (.iload_n 1, 1) := by decide +kernel
theorem dX8_takeRow_34 : decode cX8_takeRow 34 = .ok (.ireturn, 1) := by decide +kernel
def wp_X8_takeRow : List Cond := .code yX8_takeRow cX8_takeRow 2 (some .int) :: (([.fieldLink RX8 111 "SteadyMachine$Verifier" "fits" "Z"] ++ (wsV RX8 159 RX8 yX8_take wp_X8_take)) ++ wsX80)
theorem wq_X8_takeRow : wp_X8_takeRow.all goodWord = true := wa_c rfl (wa_a (wa_a (by decide +kernel) (wa_V wq_X8_take)) uq_X8)
theorem wt_X8_takeRow : GoodIn lw_tbl wp_X8_takeRow := wm_c (List.mem_of_getElem? (i := 831) (by decide +kernel)) rfl (wm_a (wm_a (goodIn_r _ [386] (by decide +kernel) (by decide +kernel)) (wm_a (goodIn_r _ [800, 802, 25, 142] (by decide +kernel) (by decide +kernel)) wt_X8_take)) ut_X8)
theorem wg_X8_takeRow_X8_take_159 : GoodIn wp_X8_takeRow (wsV RX8 159 RX8 yX8_take wp_X8_take) := goodIn_sub (fun w h => List.mem_cons_of_mem _ (List.mem_append_left _ (List.mem_append_right _ h))) (wa_V wq_X8_take)
theorem wi_X8_takeRow_X8 : ∀ w ∈ wsX80, w ∈ wp_X8_takeRow := fun w h => List.mem_cons_of_mem _ (List.mem_append_right _ h)
set_option maxHeartbeats 4000000 in
set_option maxRecDepth 100000 in
theorem c_X8_takeRow (l : Launch) (D : va_G) (sz t0 : Nat) (σ : sm_S) (α : sm_A) (K : Int32 → sm_S → Prop) (hF : mp_X8_takeRow σ K) : Met l yX8_takeRow wp_X8_takeRow { frames := 1, cells := 0, slots := 0, locals := 20 } (sm_P sm_wX sm_tX 37 D sz t0 σ α [.ref (α.1 8)]) (va_Qi K (sm_B sm_wX D α) (sm_a α 37 sz)) 0 0 (sm_a α 37 sz) := by
  refine Met.ofW (cc := cX8_takeRow) (maxL := 2) (ret := (some .int)) (by decide) rfl ?_
  intro p e s m args below meth c s₁ B hml hv
  obtain ⟨rfl, hsz, hP, hK, hD0, hE⟩ := hv
  have hx := B.exec
  have hb := B.bytes
  have hr := B.returns
  have hts := atoms_spec (ws := wp_X8_takeRow) B.pre
  have hown : s.vm.findClass RX8 = some m.cls := findClass_of_methodNamed B.named
  have hlocks := B.notSynchronized
  subst hsz
  have hD : sm_D (sm_a α 37 s.heap.size) α 37 := hD0.own
  have hA : ∀ q : Nat, s.heap.size ≤ q → sm_a α 37 s.heap.size q := fun q h => Or.inr h
  generalize hAe : sm_a α 37 s.heap.size = A at hD hA hE ⊢
  have hS : va_S A s.heap s.heap [] := va_S.rf
  have in_X8 : ∀ w ∈ wsX80, w ∈ wp_X8_takeRow := wi_X8_takeRow_X8
  have k_0 := hts (.fieldLink RX8 111 "SteadyMachine$Verifier" "fits" "Z") (by decide +kernel)
  have hl := lv_entry ([.ref (α.1 8)]) (n := 2) (Nat.le_of_ble_eq_true rfl)
  rw [lg_entry_eq]
  generalize (lg_sl ([.ref (α.1 8)]) ++ List.replicate (2 - (lg_sl ([.ref (α.1 8)])).length) Slot.unset).toArray = ls at hl ⊢
  have hl : lv_has ls 2 [(0, .ref (α.1 8))] := hl
  have B30 : ∀ (σ : sm_S) (x1 : Int32) (y1 : Int32), mp_X8_takeRow_30 K σ x1 y1 → sm_J p l e (headSpec wp_X8_takeRow { frames := 1, cells := 0, slots := 0, locals := 20 }).room s m ([.ref (α.1 8)] : List Value).toArray below meth c (MQ below (va_Qi K (sm_B sm_wX D α) A) ([.ref (α.1 8)] : List Value).toArray s 0 0 A) D A 2 (sm_wX σ α) 30 [(1, .int x1)] [.int y1, .ref (α.1 8)] := by
    intro σ x1 y1 hF H locs ls hP hS hl
    unfold mp_X8_takeRow_30 at hF
    obtain ⟨h1, hF⟩ := hF
    refine va_put (D := D) (ci := 8) (v := .int y1) (ty := .boolean) (C := RX8) (T := TX8) (N := 13) hx hb hts in_X8 tyX8 tyX8_ok nmX8 hown hK hP (hD.to (sm_wX_m _ _)) hS 8 (sm_gX8 σ α) rfl 11 (by decide) k_0 (fun _ h9 => h9) rfl (by decide +kernel) h1.1 h1.2 (Nat.le_of_ble_eq_true rfl) dX8_takeRow_30 (fun H locs hP _ hS => ?_)
    rw [sm_iX33] at hP
    obtain ⟨σ2, eσ2⟩ : ∃ x : sm_S, x = sm_i σ 33 y1 := ⟨_, rfl⟩
    replace hF := hF σ2 eσ2
    rw [← eσ2] at hP
    refine lv_iload_n hx hb dX8_takeRow_33 rfl (lv_at hl 0 rfl) ?_
    exact W.iret (v := x1) hx hb hr (fun t ht hW => ⟨⟨x1, σ2, rfl, hF, (by unfold sm_B; rw [ht]; exact hP)⟩, hS.F ht⟩) hS.2.2 dX8_takeRow_34
  have B29 : ∀ (σ : sm_S) (x1 : Int32), mp_X8_takeRow_29 K σ x1 → sm_J p l e (headSpec wp_X8_takeRow { frames := 1, cells := 0, slots := 0, locals := 20 }).room s m ([.ref (α.1 8)] : List Value).toArray below meth c (MQ below (va_Qi K (sm_B sm_wX D α) A) ([.ref (α.1 8)] : List Value).toArray s 0 0 A) D A 2 (sm_wX σ α) 29 [(1, .int x1)] [.ref (α.1 8)] := by
    intro σ x1 hF H locs ls hP hS hl
    unfold mp_X8_takeRow_29 at hF
    refine lv_iconst (v := 0) hx hb dX8_takeRow_29 (by decide) ?_
    exact B30 σ x1 0 hF H locs ls hP hS (lv_sub hl [0] rfl)
  unfold mp_X8_takeRow at hF
  revert hP hS
  generalize hLo : ([] : List Loc) = locs
  suffices h9 : ∀ (H : Heap) (locs : List Loc), va_P D vwCl (sm_wX σ α) H → va_S A s.heap H locs → W p l e (headSpec wp_X8_takeRow { frames := 1, cells := 0, slots := 0, locals := 20 }).room s m ([.ref (α.1 8)] : List Value).toArray below meth c H locs 0 0 (MQ below (va_Qi K (sm_B sm_wX D α) A) ([.ref (α.1 8)] : List Value).toArray s 0 0 A) (F0 m 0 ls []) from fun hP hS => h9 s.heap locs hP hS
  intro H locs hP hS
  refine lv_aload_n hx hb dX8_takeRow_0 rfl (lv_at hl 0 rfl) ?_
  refine sm_vi (As := []) (rest := []) hP hK hD hE hS hA ⟨hx, hb, hml, hown, hts⟩ hl.1 (c_X8_take l D H.size t0 σ α _ hF) (cwV 0 hts wg_X8_takeRow_X8_take_159 rfl rfl rfl (by decide +kernel) ⟨Nat.le_of_ble_eq_true rfl, Nat.le_of_ble_eq_true rfl⟩) (va_recv hK hP (ci := 8) (q0 := 8) rfl (sm_gX8 σ α)) rfl rfl (Nat.le_of_ble_eq_true rfl) dX8_takeRow_1 ⟨Nat.zero_le _, Nat.zero_le _⟩ (fun r4 σ3 H locs hF hP hS => ?_)
  refine lv_istore_n (lv' := [(1, .int r4), (0, .ref (α.1 8))]) hx hb dX8_takeRow_4 rfl hl (by decide) rfl (fun ls hl => ?_)
  refine lv_aload_n hx hb dX8_takeRow_5 rfl (lv_at hl 1 rfl) ?_
  refine lv_aload_n hx hb dX8_takeRow_6 rfl (lv_at hl 1 rfl) ?_
  refine va_get (D := D) (ci := 8) (v := .int (σ3.1 33)) (C := RX8) (T := TX8) (N := 13) hx hb hts in_X8 hown hK hP 8 (sm_gX8 σ3 α) rfl 11 (by decide) k_0 (fun _ h9 => h9) rfl dX8_takeRow_7 ?_
  refine lv_if_eq (tgt := 29) hx hb dX8_takeRow_10 (by decide) (fun h5 => ?_) (fun h5 => ?_)
  · replace hF := hF.1 h5
    exact B29 σ3 r4 hF H locs ls hP hS (lv_sub hl [0] rfl)
  · replace hF := hF.2 h5
    refine lv_iload_n hx hb dX8_takeRow_13 rfl (lv_at hl 0 rfl) ?_
    refine lv_bipush (v := 64) hx hb dX8_takeRow_14 (by decide) ?_
    refine lv_icmp_lt (tgt := 29) hx hb dX8_takeRow_16 (by decide) (fun h6 => ?_) (fun h6 => ?_)
    · replace hF := hF.1 h6
      exact B29 σ3 r4 hF H locs ls hP hS (lv_sub hl [0] rfl)
    · replace hF := hF.2 h6
      refine lv_iload_n hx hb dX8_takeRow_19 rfl (lv_at hl 0 rfl) ?_
      refine lv_bipush (v := 97) hx hb dX8_takeRow_20 (by decide) ?_
      refine lv_icmp_gt (tgt := 29) hx hb dX8_takeRow_22 (by decide) (fun h7 => ?_) (fun h7 => ?_)
      · replace hF := hF.1 h7
        exact B29 σ3 r4 hF H locs ls hP hS (lv_sub hl [0] rfl)
      · replace hF := hF.2 h7
        refine lv_iconst (v := 1) hx hb dX8_takeRow_25 (by decide) ?_
        refine lv_goto (tgt := 30) hx hb dX8_takeRow_26 (by decide) ?_
        exact B30 σ3 r4 1 hF H locs ls hP hS (lv_sub hl [0] rfl)
theorem dX8_applyRow_0 : decode cX8_applyRow 0 = .ok (.iload_n 1, 1) := by decide +kernel
theorem dX8_applyRow_1 : decode cX8_applyRow 1 = .ok (.lookupswitch 56 #[(31, 27), (32, 43)], 27) := by decide +kernel
theorem dX8_applyRow_28 : decode cX8_applyRow 28 = .ok (.aload_n 0, 1) := by decide +kernel
theorem dX8_applyRow_29 : decode cX8_applyRow 29 = .ok (.iconst 0, 1) := by decide +kernel
theorem dX8_applyRow_30 : decode cX8_applyRow 30 = .ok (.invokevirtual 168, 3) := by decide +kernel
theorem dX8_applyRow_33 : decode cX8_applyRow 33 = .ok (.aload_n 0, 1) := by decide +kernel
theorem dX8_applyRow_34 : decode cX8_applyRow 34 = .ok (.bipush 64, 2) := by decide +kernel
theorem dX8_applyRow_36 : decode cX8_applyRow 36 = .ok (.iload_n 2, 1) := by decide +kernel
theorem dX8_applyRow_37 : decode cX8_applyRow 37 = .ok (.iadd, 1) := by decide +kernel
theorem dX8_applyRow_38 : decode cX8_applyRow 38 = .ok (.invokevirtual 171, 3) := by decide +kernel
theorem dX8_applyRow_41 : decode cX8_applyRow 41 = .ok (.goto 45, 3) := by decide +kernel
theorem dX8_applyRow_44 : decode cX8_applyRow 44 = .ok (.aload_n 0, 1) := by decide +kernel
theorem dX8_applyRow_45 : decode cX8_applyRow 45 = .ok (.invokevirtual 202, 3) := by decide +kernel
theorem dX8_applyRow_48 : decode cX8_applyRow 48 = .ok (.pop, 1) := by decide +kernel
theorem dX8_applyRow_49 : decode cX8_applyRow 49 = .ok (.aload_n 0, 1) := by decide +kernel
theorem dX8_applyRow_50 : decode cX8_applyRow 50 = .ok (.iconst 0, 1) := by decide +kernel
theorem dX8_applyRow_51 : decode cX8_applyRow 51 = .ok (.invokevirtual 171, 3) := by decide +kernel
theorem dX8_applyRow_54 : decode cX8_applyRow 54 = .ok (.goto 32, 3) := by decide +kernel
theorem dX8_applyRow_57 : decode cX8_applyRow 57 = .ok (.aload_n 0, 1) := by decide +kernel
theorem dX8_applyRow_58 : decode cX8_applyRow 58 = .ok (.iconst 0, 1) := by decide +kernel
theorem dX8_applyRow_59 : decode cX8_applyRow 59 = .ok (.invokevirtual 168, 3) := by decide +kernel
theorem dX8_applyRow_62 : decode cX8_applyRow 62 = .ok (.aload_n 0, 1) := by decide +kernel
theorem dX8_applyRow_63 : decode cX8_applyRow 63 = .ok (.invokevirtual 202, 3) := by decide +kernel
theorem dX8_applyRow_66 : decode cX8_applyRow 66 = .ok (.istore_n 3, 1) := by decide +kernel
theorem dX8_applyRow_67 : decode cX8_applyRow 67 = .ok (.aload_n 0, 1) := by decide +kernel
theorem dX8_applyRow_68 : decode cX8_applyRow 68 = .ok (.iload_n 3, 1) := by decide +kernel
theorem dX8_applyRow_69 : decode cX8_applyRow 69 = .ok (.bipush 97, 2) := by decide +kernel
theorem dX8_applyRow_71 : decode cX8_applyRow 71 = .ok (.if_icmp .ne 8, 3) := by decide +kernel
theorem dX8_applyRow_74 : decode cX8_applyRow 74 = .ok (.bipush 97, 2) := by decide +kernel
theorem dX8_applyRow_76 : decode cX8_applyRow 76 = .ok (.goto 7, 3) := by decide +kernel
theorem dX8_applyRow_79 : decode cX8_applyRow 79 = .ok (.iload_n 3, 1) := by decide +kernel
theorem dX8_applyRow_80 : decode cX8_applyRow 80 = .ok (.bipush 64, 2) := by decide +kernel
theorem dX8_applyRow_82 : decode cX8_applyRow 82 = .ok (.isub, 1) := by decide +kernel
theorem dX8_applyRow_83 : decode cX8_applyRow 83 = .ok (.invokevirtual 171, 3) := by decide +kernel
theorem dX8_applyRow_86 : decode cX8_applyRow 86 = .ok (.return_, 1) := by decide +kernel
def wp_X8_applyRow : List Cond := .code yX8_applyRow cX8_applyRow 4 none :: ((([] ++ (wsV RX8 171 RX8 yX8_push wp_X8_push)) ++ (wsV RX8 168 RX8 yX8_takeFor wp_X8_takeFor)) ++ (wsV RX8 202 RX8 yX8_takeRow wp_X8_takeRow))
theorem wq_X8_applyRow : wp_X8_applyRow.all goodWord = true := wa_c rfl (wa_a (wa_a (wa_a (by decide +kernel) (wa_V wq_X8_push)) (wa_V wq_X8_takeFor)) (wa_V wq_X8_takeRow))
theorem wt_X8_applyRow : GoodIn lw_tbl wp_X8_applyRow := wm_c (List.mem_of_getElem? (i := 827) (by decide +kernel)) rfl (wm_a (wm_a (wm_a (goodIn_r _ [] (by decide +kernel) (by decide +kernel)) (wm_a (goodIn_r _ [796, 798, 24, 142] (by decide +kernel) (by decide +kernel)) wt_X8_push)) (wm_a (goodIn_r _ [804, 806, 26, 142] (by decide +kernel) (by decide +kernel)) wt_X8_takeFor)) (wm_a (goodIn_r _ [828, 830, 31, 142] (by decide +kernel) (by decide +kernel)) wt_X8_takeRow))
theorem wg_X8_applyRow_X8_push_171 : GoodIn wp_X8_applyRow (wsV RX8 171 RX8 yX8_push wp_X8_push) := goodIn_sub (fun w h => List.mem_cons_of_mem _ (List.mem_append_left _ (List.mem_append_left _ (List.mem_append_right _ h)))) (wa_V wq_X8_push)
theorem wg_X8_applyRow_X8_takeFor_168 : GoodIn wp_X8_applyRow (wsV RX8 168 RX8 yX8_takeFor wp_X8_takeFor) := goodIn_sub (fun w h => List.mem_cons_of_mem _ (List.mem_append_left _ (List.mem_append_right _ h))) (wa_V wq_X8_takeFor)
theorem wg_X8_applyRow_X8_takeRow_202 : GoodIn wp_X8_applyRow (wsV RX8 202 RX8 yX8_takeRow wp_X8_takeRow) := goodIn_sub (fun w h => List.mem_cons_of_mem _ (List.mem_append_right _ h)) (wa_V wq_X8_takeRow)
set_option maxHeartbeats 4000000 in
set_option maxRecDepth 100000 in
theorem c_X8_applyRow (l : Launch) (D : va_G) (sz t0 : Nat) (σ : sm_S) (α : sm_A) (p1 : Int32) (p2 : Int32) (K : sm_S → Prop) (hF : mp_X8_applyRow σ p1 p2 K) : Met l yX8_applyRow wp_X8_applyRow { frames := 2, cells := 0, slots := 0, locals := 48 } (sm_P sm_wX sm_tX 37 D sz t0 σ α [.ref (α.1 8), .int p1, .int p2]) (va_Qv K (sm_B sm_wX D α) (sm_a α 37 sz)) 0 0 (sm_a α 37 sz) := by
  refine Met.ofW (cc := cX8_applyRow) (maxL := 4) (ret := none) (by decide) rfl ?_
  intro p e s m args below meth c s₁ B hml hv
  obtain ⟨rfl, hsz, hP, hK, hD0, hE⟩ := hv
  have hx := B.exec
  have hb := B.bytes
  have hr := B.returns
  have hts := atoms_spec (ws := wp_X8_applyRow) B.pre
  have hown : s.vm.findClass RX8 = some m.cls := findClass_of_methodNamed B.named
  have hlocks := B.notSynchronized
  subst hsz
  have hD : sm_D (sm_a α 37 s.heap.size) α 37 := hD0.own
  have hA : ∀ q : Nat, s.heap.size ≤ q → sm_a α 37 s.heap.size q := fun q h => Or.inr h
  generalize hAe : sm_a α 37 s.heap.size = A at hD hA hE ⊢
  have hS : va_S A s.heap s.heap [] := va_S.rf
  have hl := lv_entry ([.ref (α.1 8), .int p1, .int p2]) (n := 4) (Nat.le_of_ble_eq_true rfl)
  rw [lg_entry_eq]
  generalize (lg_sl ([.ref (α.1 8), .int p1, .int p2]) ++ List.replicate (4 - (lg_sl ([.ref (α.1 8), .int p1, .int p2])).length) Slot.unset).toArray = ls at hl ⊢
  have hl : lv_has ls 4 [(0, .ref (α.1 8)), (1, .int p1), (2, .int p2)] := hl
  have B86 : ∀ (σ : sm_S), mp_X8_applyRow_86 K σ → sm_J p l e (headSpec wp_X8_applyRow { frames := 2, cells := 0, slots := 0, locals := 48 }).room s m ([.ref (α.1 8), .int p1, .int p2] : List Value).toArray below meth c (MQ below (va_Qv K (sm_B sm_wX D α) A) ([.ref (α.1 8), .int p1, .int p2] : List Value).toArray s 0 0 A) D A 4 (sm_wX σ α) 86 [] [] := by
    intro σ hF H locs ls hP hS hl
    unfold mp_X8_applyRow_86 at hF
    exact W.vret hx hb hr (fun t ht hW => ⟨⟨σ, rfl, hF, (by unfold sm_B; rw [ht]; exact hP)⟩, hS.F ht⟩) hS.2.2 dX8_applyRow_86
  have B83 : ∀ (σ : sm_S) (y1 : Int32), mp_X8_applyRow_83 K σ y1 → sm_J p l e (headSpec wp_X8_applyRow { frames := 2, cells := 0, slots := 0, locals := 48 }).room s m ([.ref (α.1 8), .int p1, .int p2] : List Value).toArray below meth c (MQ below (va_Qv K (sm_B sm_wX D α) A) ([.ref (α.1 8), .int p1, .int p2] : List Value).toArray s 0 0 A) D A 4 (sm_wX σ α) 83 [] [.int y1, .ref (α.1 8)] := by
    intro σ y1 hF H locs ls hP hS hl
    unfold mp_X8_applyRow_83 at hF
    refine sm_vv (As := [.int y1]) (rest := []) hP hK hD hE hS hA ⟨hx, hb, hml, hown, hts⟩ hl.1 (c_X8_push l D H.size t0 σ α y1 _ hF) (cwV 1 hts wg_X8_applyRow_X8_push_171 rfl rfl rfl (by decide +kernel) ⟨Nat.le_of_ble_eq_true rfl, Nat.le_of_ble_eq_true rfl⟩) (va_recv hK hP (ci := 8) (q0 := 8) rfl (sm_gX8 σ α)) rfl rfl (Nat.le_of_ble_eq_true rfl) dX8_applyRow_83 ⟨Nat.zero_le _, Nat.zero_le _⟩ (fun σ1 H locs hF hP hS => ?_)
    exact B86 σ1 hF H locs ls hP hS (lv_sub hl [] rfl)
  unfold mp_X8_applyRow at hF
  revert hP hS
  generalize hLo : ([] : List Loc) = locs
  suffices h9 : ∀ (H : Heap) (locs : List Loc), va_P D vwCl (sm_wX σ α) H → va_S A s.heap H locs → W p l e (headSpec wp_X8_applyRow { frames := 2, cells := 0, slots := 0, locals := 48 }).room s m ([.ref (α.1 8), .int p1, .int p2] : List Value).toArray below meth c H locs 0 0 (MQ below (va_Qv K (sm_B sm_wX D α) A) ([.ref (α.1 8), .int p1, .int p2] : List Value).toArray s 0 0 A) (F0 m 0 ls []) from fun hP hS => h9 s.heap locs hP hS
  intro H locs hP hS
  refine lv_iload_n hx hb dX8_applyRow_0 rfl (lv_at hl 1 rfl) ?_
  by_cases h2 : p1 = 31
  · refine lv_lookup (off := 27) (tgt := 28) hx hb dX8_applyRow_1 (by decide) (by rw [h2]; try decide) (by decide) ?_
    replace hF := hF.1 h2
    refine lv_aload_n hx hb dX8_applyRow_28 rfl (lv_at hl 0 rfl) ?_
    refine lv_iconst (v := 0) hx hb dX8_applyRow_29 (by decide) ?_
    refine sm_vv (As := [.int 0]) (rest := []) hP hK hD hE hS hA ⟨hx, hb, hml, hown, hts⟩ hl.1 (c_X8_takeFor l D H.size t0 σ α 0 _ hF) (cwV 1 hts wg_X8_applyRow_X8_takeFor_168 rfl rfl rfl (by decide +kernel) ⟨Nat.le_of_ble_eq_true rfl, Nat.le_of_ble_eq_true rfl⟩) (va_recv hK hP (ci := 8) (q0 := 8) rfl (sm_gX8 σ α)) rfl rfl (Nat.le_of_ble_eq_true rfl) dX8_applyRow_30 ⟨Nat.zero_le _, Nat.zero_le _⟩ (fun σ3 H locs hF hP hS => ?_)
    refine lv_aload_n hx hb dX8_applyRow_33 rfl (lv_at hl 0 rfl) ?_
    refine lv_bipush (v := 64) hx hb dX8_applyRow_34 (by decide) ?_
    refine lv_iload_n hx hb dX8_applyRow_36 rfl (lv_at hl 2 rfl) ?_
    refine lv_iadd hx hb dX8_applyRow_37 ?_
    refine sm_vv (As := [.int (64 + p2)]) (rest := []) hP hK hD hE hS hA ⟨hx, hb, hml, hown, hts⟩ hl.1 (c_X8_push l D H.size t0 σ3 α (64 + p2) _ hF) (cwV 1 hts wg_X8_applyRow_X8_push_171 rfl rfl rfl (by decide +kernel) ⟨Nat.le_of_ble_eq_true rfl, Nat.le_of_ble_eq_true rfl⟩) (va_recv hK hP (ci := 8) (q0 := 8) rfl (sm_gX8 σ3 α)) rfl rfl (Nat.le_of_ble_eq_true rfl) dX8_applyRow_38 ⟨Nat.zero_le _, Nat.zero_le _⟩ (fun σ4 H locs hF hP hS => ?_)
    refine lv_goto (tgt := 86) hx hb dX8_applyRow_41 (by decide) ?_
    exact B86 σ4 hF H locs ls hP hS (lv_sub hl [] rfl)
  by_cases h5 : p1 = 32
  · refine lv_lookup (off := 43) (tgt := 44) hx hb dX8_applyRow_1 (by decide) (by rw [h5]; try decide) (by decide) ?_
    replace hF := hF.2.1 h5
    refine lv_aload_n hx hb dX8_applyRow_44 rfl (lv_at hl 0 rfl) ?_
    refine sm_vi (As := []) (rest := []) hP hK hD hE hS hA ⟨hx, hb, hml, hown, hts⟩ hl.1 (c_X8_takeRow l D H.size t0 σ α _ hF) (cwV 0 hts wg_X8_applyRow_X8_takeRow_202 rfl rfl rfl (by decide +kernel) ⟨Nat.le_of_ble_eq_true rfl, Nat.le_of_ble_eq_true rfl⟩) (va_recv hK hP (ci := 8) (q0 := 8) rfl (sm_gX8 σ α)) rfl rfl (Nat.le_of_ble_eq_true rfl) dX8_applyRow_45 ⟨Nat.zero_le _, Nat.zero_le _⟩ (fun r7 σ6 H locs hF hP hS => ?_)
    refine lv_pop hx hb dX8_applyRow_48 rfl ?_
    refine lv_aload_n hx hb dX8_applyRow_49 rfl (lv_at hl 0 rfl) ?_
    refine lv_iconst (v := 0) hx hb dX8_applyRow_50 (by decide) ?_
    refine sm_vv (As := [.int 0]) (rest := []) hP hK hD hE hS hA ⟨hx, hb, hml, hown, hts⟩ hl.1 (c_X8_push l D H.size t0 σ6 α 0 _ hF) (cwV 1 hts wg_X8_applyRow_X8_push_171 rfl rfl rfl (by decide +kernel) ⟨Nat.le_of_ble_eq_true rfl, Nat.le_of_ble_eq_true rfl⟩) (va_recv hK hP (ci := 8) (q0 := 8) rfl (sm_gX8 σ6 α)) rfl rfl (Nat.le_of_ble_eq_true rfl) dX8_applyRow_51 ⟨Nat.zero_le _, Nat.zero_le _⟩ (fun σ8 H locs hF hP hS => ?_)
    refine lv_goto (tgt := 86) hx hb dX8_applyRow_54 (by decide) ?_
    exact B86 σ8 hF H locs ls hP hS (lv_sub hl [] rfl)
  refine lv_lookup (off := 56) (tgt := 57) hx hb dX8_applyRow_1 (by decide) (((lv_osw h2 (by decide)).trans ((lv_osw h5 (by decide)).trans rfl))) (by decide) ?_
  replace hF := hF.2.2 h2 h5
  refine lv_aload_n hx hb dX8_applyRow_57 rfl (lv_at hl 0 rfl) ?_
  refine lv_iconst (v := 0) hx hb dX8_applyRow_58 (by decide) ?_
  refine sm_vv (As := [.int 0]) (rest := []) hP hK hD hE hS hA ⟨hx, hb, hml, hown, hts⟩ hl.1 (c_X8_takeFor l D H.size t0 σ α 0 _ hF) (cwV 1 hts wg_X8_applyRow_X8_takeFor_168 rfl rfl rfl (by decide +kernel) ⟨Nat.le_of_ble_eq_true rfl, Nat.le_of_ble_eq_true rfl⟩) (va_recv hK hP (ci := 8) (q0 := 8) rfl (sm_gX8 σ α)) rfl rfl (Nat.le_of_ble_eq_true rfl) dX8_applyRow_59 ⟨Nat.zero_le _, Nat.zero_le _⟩ (fun σ9 H locs hF hP hS => ?_)
  refine lv_aload_n hx hb dX8_applyRow_62 rfl (lv_at hl 0 rfl) ?_
  refine sm_vi (As := []) (rest := []) hP hK hD hE hS hA ⟨hx, hb, hml, hown, hts⟩ hl.1 (c_X8_takeRow l D H.size t0 σ9 α _ hF) (cwV 0 hts wg_X8_applyRow_X8_takeRow_202 rfl rfl rfl (by decide +kernel) ⟨Nat.le_of_ble_eq_true rfl, Nat.le_of_ble_eq_true rfl⟩) (va_recv hK hP (ci := 8) (q0 := 8) rfl (sm_gX8 σ9 α)) rfl rfl (Nat.le_of_ble_eq_true rfl) dX8_applyRow_63 ⟨Nat.zero_le _, Nat.zero_le _⟩ (fun r11 σ10 H locs hF hP hS => ?_)
  refine lv_istore_n (lv' := [(3, .int r11), (0, .ref (α.1 8)), (1, .int p1), (2, .int p2)]) hx hb dX8_applyRow_66 rfl hl (by decide) rfl (fun ls hl => ?_)
  refine lv_aload_n hx hb dX8_applyRow_67 rfl (lv_at hl 1 rfl) ?_
  refine lv_iload_n hx hb dX8_applyRow_68 rfl (lv_at hl 0 rfl) ?_
  refine lv_bipush (v := 97) hx hb dX8_applyRow_69 (by decide) ?_
  refine lv_icmp_ne (tgt := 79) hx hb dX8_applyRow_71 (by decide) (fun h12 => ?_) (fun h12 => ?_)
  · replace hF := hF.1 h12
    refine lv_iload_n hx hb dX8_applyRow_79 rfl (lv_at hl 0 rfl) ?_
    refine lv_bipush (v := 64) hx hb dX8_applyRow_80 (by decide) ?_
    refine lv_isub hx hb dX8_applyRow_82 ?_
    exact B83 σ10 (r11 - 64) hF H locs ls hP hS (lv_sub hl [] rfl)
  · replace hF := hF.2 h12
    refine lv_bipush (v := 97) hx hb dX8_applyRow_74 (by decide) ?_
    refine lv_goto (tgt := 83) hx hb dX8_applyRow_76 (by decide) ?_
    exact B83 σ10 97 hF H locs ls hP hS (lv_sub hl [] rfl)
theorem dX8_applyTo_0 : decode cX8_applyTo 0 = .ok (.aload_n 0, 1) := by decide +kernel
theorem dX8_applyTo_1 : decode cX8_applyTo 1 = .ok (.getfield 121, 3) := by decide +kernel
theorem dX8_applyTo_4 : decode cX8_applyTo 4 = .ok (.iconst 3, 1) := by decide +kernel
theorem dX8_applyTo_5 : decode cX8_applyTo 5 = .ok (.if_icmp .lt 22, 3) := by decide +kernel
theorem dX8_applyTo_8 : decode cX8_applyTo 8 = .ok (.aload_n 0, 1) := by decide +kernel
theorem dX8_applyTo_9 : decode cX8_applyTo 9 = .ok (.getfield 22, 3) := by decide +kernel
theorem dX8_applyTo_12 : decode cX8_applyTo 12 = .ok (.aload_n 0, 1) := by decide +kernel
theorem dX8_applyTo_13 : decode cX8_applyTo 13 = .ok (.getfield 75, 3) := by decide +kernel
theorem dX8_applyTo_16 : decode cX8_applyTo 16 = .ok (.aload_n 0, 1) := by decide +kernel
theorem dX8_applyTo_17 : decode cX8_applyTo 17 = .ok (.getfield 121, 3) := by decide +kernel
theorem dX8_applyTo_20 : decode cX8_applyTo 20 = .ok (.iadd, 1) := by decide +kernel
theorem dX8_applyTo_21 : decode cX8_applyTo 21 = .ok (.iconst 3, 1) := by decide +kernel
theorem dX8_applyTo_22 : decode cX8_applyTo 22 = .ok (.isub, 1) := by decide +kernel
theorem dX8_applyTo_23 : decode cX8_applyTo 23 = .ok (.iaload, 1) := by decide +kernel
theorem dX8_applyTo_24 : decode cX8_applyTo 24 = .ok (.goto 5, 3) := by decide +kernel
theorem dX8_applyTo_27 : decode cX8_applyTo 27 = .ok (.bipush 99, 2) := by decide +kernel
theorem dX8_applyTo_29 : decode cX8_applyTo 29 = .ok (.istore_n 1, 1) := by decide +kernel
theorem dX8_applyTo_30 : decode cX8_applyTo 30 = .ok (.iload_n 1, 1) := by decide +kernel
theorem dX8_applyTo_31 : decode cX8_applyTo 31 = .ok (.bipush 97, 2) := by decide +kernel
theorem dX8_applyTo_33 : decode cX8_applyTo 33 = .ok (.if_icmp .ne 11, 3) := by decide +kernel
theorem dX8_applyTo_36 : decode cX8_applyTo 36 = .ok (.aload_n 0, 1) := by decide +kernel
theorem dX8_applyTo_37 : decode cX8_applyTo 37 = .ok (.invokevirtual 159, 3) := by decide +kernel
theorem dX8_applyTo_40 : decode cX8_applyTo 40 = .ok (.pop, 1) := by decide +kernel
theorem dX8_applyTo_41 : decode cX8_applyTo 41 = .ok (.goto 11, 3) := by decide +kernel
theorem dX8_applyTo_44 : decode cX8_applyTo 44 = .ok (.aload_n 0, 1) := by decide +kernel
theorem dX8_applyTo_45 : decode cX8_applyTo 45 = .ok (.iload_n 1, 1) := by decide +kernel
theorem dX8_applyTo_46 : decode cX8_applyTo 46 = .ok (.bipush 64, 2) := by decide +kernel
theorem dX8_applyTo_48 : decode cX8_applyTo 48 = .ok (.isub, 1) := by decide +kernel
theorem dX8_applyTo_49 : decode cX8_applyTo 49 = .ok (.invokevirtual 168, 3) := by decide +kernel
theorem dX8_applyTo_52 : decode cX8_applyTo 52 = .ok (.aload_n 0, 1) := by decide +kernel
theorem dX8_applyTo_53 : decode cX8_applyTo 53 = .ok (.iconst 0, 1) := by decide +kernel
theorem dX8_applyTo_54 : decode cX8_applyTo 54 = .ok (.invokevirtual 168, 3) := by decide +kernel
theorem dX8_applyTo_57 : decode cX8_applyTo 57 = .ok (.aload_n 0, 1) := by decide +kernel
theorem dX8_applyTo_58 : decode cX8_applyTo 58 = .ok (.invokevirtual 202, 3) := by decide +kernel
theorem dX8_applyTo_61 : decode cX8_applyTo 61 = .ok (.pop, 1) := by decide +kernel
theorem dX8_applyTo_62 : decode cX8_applyTo 62 = .ok (.return_, 1) := by decide +kernel
def wp_X8_applyTo : List Cond := .code yX8_applyTo cX8_applyTo 2 none :: (((([.fieldLink RX8 121 "SteadyMachine$Verifier" "height" "I", .fieldLink RX8 22 "SteadyMachine$Verifier" "now" "[I", .fieldLink RX8 75 "SteadyMachine$Verifier" "locals" "I"] ++ (wsV RX8 168 RX8 yX8_takeFor wp_X8_takeFor)) ++ (wsV RX8 202 RX8 yX8_takeRow wp_X8_takeRow)) ++ (wsV RX8 159 RX8 yX8_take wp_X8_take)) ++ wsX80)
theorem wq_X8_applyTo : wp_X8_applyTo.all goodWord = true := wa_c rfl (wa_a (wa_a (wa_a (wa_a (by decide +kernel) (wa_V wq_X8_takeFor)) (wa_V wq_X8_takeRow)) (wa_V wq_X8_take)) uq_X8)
theorem wt_X8_applyTo : GoodIn lw_tbl wp_X8_applyTo := wm_c (List.mem_of_getElem? (i := 835) (by decide +kernel)) rfl (wm_a (wm_a (wm_a (wm_a (goodIn_r _ [382, 381, 384] (by decide +kernel) (by decide +kernel)) (wm_a (goodIn_r _ [804, 806, 26, 142] (by decide +kernel) (by decide +kernel)) wt_X8_takeFor)) (wm_a (goodIn_r _ [828, 830, 31, 142] (by decide +kernel) (by decide +kernel)) wt_X8_takeRow)) (wm_a (goodIn_r _ [800, 802, 25, 142] (by decide +kernel) (by decide +kernel)) wt_X8_take)) ut_X8)
theorem wg_X8_applyTo_X8_takeFor_168 : GoodIn wp_X8_applyTo (wsV RX8 168 RX8 yX8_takeFor wp_X8_takeFor) := goodIn_sub (fun w h => List.mem_cons_of_mem _ (List.mem_append_left _ (List.mem_append_left _ (List.mem_append_left _ (List.mem_append_right _ h))))) (wa_V wq_X8_takeFor)
theorem wg_X8_applyTo_X8_takeRow_202 : GoodIn wp_X8_applyTo (wsV RX8 202 RX8 yX8_takeRow wp_X8_takeRow) := goodIn_sub (fun w h => List.mem_cons_of_mem _ (List.mem_append_left _ (List.mem_append_left _ (List.mem_append_right _ h)))) (wa_V wq_X8_takeRow)
theorem wg_X8_applyTo_X8_take_159 : GoodIn wp_X8_applyTo (wsV RX8 159 RX8 yX8_take wp_X8_take) := goodIn_sub (fun w h => List.mem_cons_of_mem _ (List.mem_append_left _ (List.mem_append_right _ h))) (wa_V wq_X8_take)
theorem wi_X8_applyTo_X8 : ∀ w ∈ wsX80, w ∈ wp_X8_applyTo := fun w h => List.mem_cons_of_mem _ (List.mem_append_right _ h)
set_option maxHeartbeats 4000000 in
set_option maxRecDepth 100000 in
theorem c_X8_applyTo (l : Launch) (D : va_G) (sz t0 : Nat) (σ : sm_S) (α : sm_A) (K : sm_S → Prop) (hF : mp_X8_applyTo σ K) : Met l yX8_applyTo wp_X8_applyTo { frames := 2, cells := 0, slots := 0, locals := 48 } (sm_P sm_wX sm_tX 37 D sz t0 σ α [.ref (α.1 8)]) (va_Qv K (sm_B sm_wX D α) (sm_a α 37 sz)) 0 0 (sm_a α 37 sz) := by
  refine Met.ofW (cc := cX8_applyTo) (maxL := 2) (ret := none) (by decide) rfl ?_
  intro p e s m args below meth c s₁ B hml hv
  obtain ⟨rfl, hsz, hP, hK, hD0, hE⟩ := hv
  have hx := B.exec
  have hb := B.bytes
  have hr := B.returns
  have hts := atoms_spec (ws := wp_X8_applyTo) B.pre
  have hown : s.vm.findClass RX8 = some m.cls := findClass_of_methodNamed B.named
  have hlocks := B.notSynchronized
  subst hsz
  have hD : sm_D (sm_a α 37 s.heap.size) α 37 := hD0.own
  have hA : ∀ q : Nat, s.heap.size ≤ q → sm_a α 37 s.heap.size q := fun q h => Or.inr h
  generalize hAe : sm_a α 37 s.heap.size = A at hD hA hE ⊢
  have hS : va_S A s.heap s.heap [] := va_S.rf
  have in_X8 : ∀ w ∈ wsX80, w ∈ wp_X8_applyTo := wi_X8_applyTo_X8
  have k_0 := hts (.fieldLink RX8 121 "SteadyMachine$Verifier" "height" "I") (by decide +kernel)
  have k_1 := hts (.fieldLink RX8 22 "SteadyMachine$Verifier" "now" "[I") (by decide +kernel)
  have k_2 := hts (.fieldLink RX8 75 "SteadyMachine$Verifier" "locals" "I") (by decide +kernel)
  have hl := lv_entry ([.ref (α.1 8)]) (n := 2) (Nat.le_of_ble_eq_true rfl)
  rw [lg_entry_eq]
  generalize (lg_sl ([.ref (α.1 8)]) ++ List.replicate (2 - (lg_sl ([.ref (α.1 8)])).length) Slot.unset).toArray = ls at hl ⊢
  have hl : lv_has ls 2 [(0, .ref (α.1 8))] := hl
  have B52 : ∀ (σ : sm_S), mp_X8_applyTo_52 K σ → sm_J p l e (headSpec wp_X8_applyTo { frames := 2, cells := 0, slots := 0, locals := 48 }).room s m ([.ref (α.1 8)] : List Value).toArray below meth c (MQ below (va_Qv K (sm_B sm_wX D α) A) ([.ref (α.1 8)] : List Value).toArray s 0 0 A) D A 2 (sm_wX σ α) 52 [(0, .ref (α.1 8))] [] := by
    intro σ hF H locs ls hP hS hl
    unfold mp_X8_applyTo_52 at hF
    refine lv_aload_n hx hb dX8_applyTo_52 rfl (lv_at hl 0 rfl) ?_
    refine lv_iconst (v := 0) hx hb dX8_applyTo_53 (by decide) ?_
    refine sm_vv (As := [.int 0]) (rest := []) hP hK hD hE hS hA ⟨hx, hb, hml, hown, hts⟩ hl.1 (c_X8_takeFor l D H.size t0 σ α 0 _ hF) (cwV 1 hts wg_X8_applyTo_X8_takeFor_168 rfl rfl rfl (by decide +kernel) ⟨Nat.le_of_ble_eq_true rfl, Nat.le_of_ble_eq_true rfl⟩) (va_recv hK hP (ci := 8) (q0 := 8) rfl (sm_gX8 σ α)) rfl rfl (Nat.le_of_ble_eq_true rfl) dX8_applyTo_54 ⟨Nat.zero_le _, Nat.zero_le _⟩ (fun σ1 H locs hF hP hS => ?_)
    refine lv_aload_n hx hb dX8_applyTo_57 rfl (lv_at hl 0 rfl) ?_
    refine sm_vi (As := []) (rest := []) hP hK hD hE hS hA ⟨hx, hb, hml, hown, hts⟩ hl.1 (c_X8_takeRow l D H.size t0 σ1 α _ hF) (cwV 0 hts wg_X8_applyTo_X8_takeRow_202 rfl rfl rfl (by decide +kernel) ⟨Nat.le_of_ble_eq_true rfl, Nat.le_of_ble_eq_true rfl⟩) (va_recv hK hP (ci := 8) (q0 := 8) rfl (sm_gX8 σ1 α)) rfl rfl (Nat.le_of_ble_eq_true rfl) dX8_applyTo_58 ⟨Nat.zero_le _, Nat.zero_le _⟩ (fun r3 σ2 H locs hF hP hS => ?_)
    refine lv_pop hx hb dX8_applyTo_61 rfl ?_
    exact W.vret hx hb hr (fun t ht hW => ⟨⟨σ2, rfl, hF, (by unfold sm_B; rw [ht]; exact hP)⟩, hS.F ht⟩) hS.2.2 dX8_applyTo_62
  have B29 : ∀ (σ : sm_S) (y0 : Int32), mp_X8_applyTo_29 K σ y0 → sm_J p l e (headSpec wp_X8_applyTo { frames := 2, cells := 0, slots := 0, locals := 48 }).room s m ([.ref (α.1 8)] : List Value).toArray below meth c (MQ below (va_Qv K (sm_B sm_wX D α) A) ([.ref (α.1 8)] : List Value).toArray s 0 0 A) D A 2 (sm_wX σ α) 29 [(0, .ref (α.1 8))] [.int y0] := by
    intro σ y0 hF H locs ls hP hS hl
    unfold mp_X8_applyTo_29 at hF
    refine lv_istore_n (lv' := [(1, .int y0), (0, .ref (α.1 8))]) hx hb dX8_applyTo_29 rfl hl (by decide) rfl (fun ls hl => ?_)
    refine lv_iload_n hx hb dX8_applyTo_30 rfl (lv_at hl 0 rfl) ?_
    refine lv_bipush (v := 97) hx hb dX8_applyTo_31 (by decide) ?_
    refine lv_icmp_ne (tgt := 44) hx hb dX8_applyTo_33 (by decide) (fun h4 => ?_) (fun h4 => ?_)
    · replace hF := hF.1 h4
      refine lv_aload_n hx hb dX8_applyTo_44 rfl (lv_at hl 1 rfl) ?_
      refine lv_iload_n hx hb dX8_applyTo_45 rfl (lv_at hl 0 rfl) ?_
      refine lv_bipush (v := 64) hx hb dX8_applyTo_46 (by decide) ?_
      refine lv_isub hx hb dX8_applyTo_48 ?_
      refine sm_vv (As := [.int (y0 - 64)]) (rest := []) hP hK hD hE hS hA ⟨hx, hb, hml, hown, hts⟩ hl.1 (c_X8_takeFor l D H.size t0 σ α (y0 - 64) _ hF) (cwV 1 hts wg_X8_applyTo_X8_takeFor_168 rfl rfl rfl (by decide +kernel) ⟨Nat.le_of_ble_eq_true rfl, Nat.le_of_ble_eq_true rfl⟩) (va_recv hK hP (ci := 8) (q0 := 8) rfl (sm_gX8 σ α)) rfl rfl (Nat.le_of_ble_eq_true rfl) dX8_applyTo_49 ⟨Nat.zero_le _, Nat.zero_le _⟩ (fun σ5 H locs hF hP hS => ?_)
      exact B52 σ5 hF H locs ls hP hS (lv_sub hl [1] rfl)
    · replace hF := hF.2 h4
      refine lv_aload_n hx hb dX8_applyTo_36 rfl (lv_at hl 1 rfl) ?_
      refine sm_vi (As := []) (rest := []) hP hK hD hE hS hA ⟨hx, hb, hml, hown, hts⟩ hl.1 (c_X8_take l D H.size t0 σ α _ hF) (cwV 0 hts wg_X8_applyTo_X8_take_159 rfl rfl rfl (by decide +kernel) ⟨Nat.le_of_ble_eq_true rfl, Nat.le_of_ble_eq_true rfl⟩) (va_recv hK hP (ci := 8) (q0 := 8) rfl (sm_gX8 σ α)) rfl rfl (Nat.le_of_ble_eq_true rfl) dX8_applyTo_37 ⟨Nat.zero_le _, Nat.zero_le _⟩ (fun r7 σ6 H locs hF hP hS => ?_)
      refine lv_pop hx hb dX8_applyTo_40 rfl ?_
      refine lv_goto (tgt := 52) hx hb dX8_applyTo_41 (by decide) ?_
      exact B52 σ6 hF H locs ls hP hS (lv_sub hl [1] rfl)
  unfold mp_X8_applyTo at hF
  revert hP hS
  generalize hLo : ([] : List Loc) = locs
  suffices h9 : ∀ (H : Heap) (locs : List Loc), va_P D vwCl (sm_wX σ α) H → va_S A s.heap H locs → W p l e (headSpec wp_X8_applyTo { frames := 2, cells := 0, slots := 0, locals := 48 }).room s m ([.ref (α.1 8)] : List Value).toArray below meth c H locs 0 0 (MQ below (va_Qv K (sm_B sm_wX D α) A) ([.ref (α.1 8)] : List Value).toArray s 0 0 A) (F0 m 0 ls []) from fun hP hS => h9 s.heap locs hP hS
  intro H locs hP hS
  refine lv_aload_n hx hb dX8_applyTo_0 rfl (lv_at hl 0 rfl) ?_
  refine va_get (D := D) (ci := 8) (v := .int (σ.1 29)) (C := RX8) (T := TX8) (N := 13) hx hb hts in_X8 hown hK hP 8 (sm_gX8 σ α) rfl 7 (by decide) k_0 (fun _ h9 => h9) rfl dX8_applyTo_1 ?_
  refine lv_iconst (v := 3) hx hb dX8_applyTo_4 (by decide) ?_
  refine lv_icmp_lt (tgt := 27) hx hb dX8_applyTo_5 (by decide) (fun h8 => ?_) (fun h8 => ?_)
  · replace hF := hF.1 h8
    refine lv_bipush (v := 99) hx hb dX8_applyTo_27 (by decide) ?_
    exact B29 σ 99 hF H locs ls hP hS (lv_sub hl [0] rfl)
  · replace hF := hF.2 h8
    refine lv_aload_n hx hb dX8_applyTo_8 rfl (lv_at hl 0 rfl) ?_
    refine va_get (D := D) (ci := 8) (v := .ref (α.1 35)) (C := RX8) (T := TX8) (N := 13) hx hb hts in_X8 hown hK hP 8 (sm_gX8 σ α) rfl 6 (by decide) k_1 (fun _ h9 => h9) rfl dX8_applyTo_9 ?_
    refine lv_aload_n hx hb dX8_applyTo_12 rfl (lv_at hl 0 rfl) ?_
    refine va_get (D := D) (ci := 8) (v := .int (σ.1 31)) (C := RX8) (T := TX8) (N := 13) hx hb hts in_X8 hown hK hP 8 (sm_gX8 σ α) rfl 9 (by decide) k_2 (fun _ h9 => h9) rfl dX8_applyTo_13 ?_
    refine lv_aload_n hx hb dX8_applyTo_16 rfl (lv_at hl 0 rfl) ?_
    refine va_get (D := D) (ci := 8) (v := .int (σ.1 29)) (C := RX8) (T := TX8) (N := 13) hx hb hts in_X8 hown hK hP 8 (sm_gX8 σ α) rfl 7 (by decide) k_0 (fun _ h9 => h9) rfl dX8_applyTo_17 ?_
    refine lv_iadd hx hb dX8_applyTo_20 ?_
    refine lv_iconst (v := 3) hx hb dX8_applyTo_21 (by decide) ?_
    refine lv_isub hx hb dX8_applyTo_22 ?_
    obtain ⟨h9, hF⟩ := hF
    refine va_iald (n := (σ.2.2.1 35)) (f := (σ.2.2.2.1 35)) hx hb hK hP 35 24 (sm_aX35 σ α) (sm_yX35 α) h9 dX8_applyTo_23 ?_
    refine lv_goto (tgt := 29) hx hb dX8_applyTo_24 (by decide) ?_
    exact B29 σ ((σ.2.2.2.1 35) (((σ.1 31) + (σ.1 29)) - 3).toNatClampNeg) hF H locs ls hP hS (lv_sub hl [0] rfl)
