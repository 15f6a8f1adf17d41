theorem dX12_isRow_0 : decode cX12_isRow 0 = .ok (.iload_n 0, 1) := by decide +kernel
theorem dX12_isRow_1 : decode cX12_isRow 1 = .ok (.bipush 64, 2) := by decide +kernel
theorem dX12_isRow_3 : decode cX12_isRow 3 = .ok (.if_icmp .lt 13, 3) := by decide +kernel
theorem dX12_isRow_6 : decode cX12_isRow 6 = .ok (.iload_n 0, 1) := by decide +kernel
theorem dX12_isRow_7 : decode cX12_isRow 7 = .ok (.bipush 96, 2) := by decide +kernel
theorem dX12_isRow_9 : decode cX12_isRow 9 = .ok (.if_icmp .gt 7, 3) := by decide +kernel
theorem dX12_isRow_12 : decode cX12_isRow 12 = .ok (.iconst 1, 1) := by decide +kernel
theorem dX12_isRow_13 : decode cX12_isRow 13 = .ok (.goto 4, 3) := by decide +kernel
theorem dX12_isRow_16 : decode cX12_isRow 16 = .ok (.iconst 0, 1) := by decide +kernel
theorem dX12_isRow_17 : decode cX12_isRow 17 = .ok (.ireturn, 1) := by decide +kernel
def wp_X12_isRow : List Cond := .code yX12_isRow cX12_isRow 1 (some .boolean) :: []
theorem wq_X12_isRow : wp_X12_isRow.all goodWord = true := wa_c rfl (by decide +kernel)
theorem wt_X12_isRow : GoodIn lw_tbl wp_X12_isRow := wm_c (List.mem_of_getElem? (i := 1337) (by decide +kernel)) rfl (goodIn_r _ [] (by decide +kernel) (by decide +kernel))
set_option maxHeartbeats 4000000 in
set_option maxRecDepth 100000 in
theorem c_X12_isRow (l : Launch) (D : va_G) (sz t0 : Nat) (σ : sm_S) (α : sm_A) (p1 : Int32) (K : Int32 → sm_S → Prop) (hF : mp_X12_isRow σ p1 K) : Met l yX12_isRow wp_X12_isRow { frames := 0, cells := 0, slots := 0, locals := 0 } (sm_P sm_wM sm_tM 40 D sz t0 σ α [.int p1]) (va_Qi K (sm_B sm_wM D α) (sm_a α 40 sz)) 0 0 (sm_a α 40 sz) := by
  refine Met.ofW (cc := cX12_isRow) (maxL := 1) (ret := (some .boolean)) (by decide) rfl ?_
  intro p e s m args below meth c s₁ B hml hv
  obtain ⟨rfl, hsz, hP, hK, hD0, hE⟩ := hv
  have hx := B.exec
  have hb := B.bytes
  have hr := B.returns
  have hts := atoms_spec (ws := wp_X12_isRow) B.pre
  have hown : s.vm.findClass RX12 = some m.cls := findClass_of_methodNamed B.named
  have hlocks := B.notSynchronized
  subst hsz
  have hD : sm_D (sm_a α 40 s.heap.size) α 40 := hD0.own
  have hA : ∀ q : Nat, s.heap.size ≤ q → sm_a α 40 s.heap.size q := fun q h => Or.inr h
  generalize hAe : sm_a α 40 s.heap.size = A at hD hA hE ⊢
  have hS : va_S A s.heap s.heap [] := va_S.rf
  have hl := lv_entry ([.int p1]) (n := 1) (Nat.le_of_ble_eq_true rfl)
  rw [lg_entry_eq]
  generalize (lg_sl ([.int p1]) ++ List.replicate (1 - (lg_sl ([.int p1])).length) Slot.unset).toArray = ls at hl ⊢
  have hl : lv_has ls 1 [(0, .int p1)] := hl
  have B17 : ∀ (σ : sm_S) (y0 : Int32), mp_X12_isRow_17 K σ y0 → sm_J p l e (headSpec wp_X12_isRow { frames := 0, cells := 0, slots := 0, locals := 0 }).room s m ([.int p1] : List Value).toArray below meth c (MQ below (va_Qi K (sm_B sm_wM D α) A) ([.int p1] : List Value).toArray s 0 0 A) D A 1 (sm_wM σ α) 17 [] [.int y0] := by
    intro σ y0 hF H locs ls hP hS hl
    unfold mp_X12_isRow_17 at hF
    obtain ⟨h1, hF⟩ := hF
    exact W.zret (v := y0) hx hb hr h1.1 (fun t ht hW => ⟨⟨y0, σ, rfl, hF, (by unfold sm_B; rw [ht]; exact hP)⟩, hS.F ht⟩) hS.2.2 dX12_isRow_17
  have B16 : ∀ (σ : sm_S), mp_X12_isRow_16 K σ → sm_J p l e (headSpec wp_X12_isRow { frames := 0, cells := 0, slots := 0, locals := 0 }).room s m ([.int p1] : List Value).toArray below meth c (MQ below (va_Qi K (sm_B sm_wM D α) A) ([.int p1] : List Value).toArray s 0 0 A) D A 1 (sm_wM σ α) 16 [] [] := by
    intro σ hF H locs ls hP hS hl
    unfold mp_X12_isRow_16 at hF
    refine lv_iconst (v := 0) hx hb dX12_isRow_16 (by decide) ?_
    exact B17 σ 0 hF H locs ls hP hS (lv_sub hl [] rfl)
  unfold mp_X12_isRow at hF
  revert hP hS
  generalize hLo : ([] : List Loc) = locs
  suffices h9 : ∀ (H : Heap) (locs : List Loc), va_P D vwCl (sm_wM σ α) H → va_S A s.heap H locs → W p l e (headSpec wp_X12_isRow { frames := 0, cells := 0, slots := 0, locals := 0 }).room s m ([.int p1] : List Value).toArray below meth c H locs 0 0 (MQ below (va_Qi K (sm_B sm_wM D α) A) ([.int p1] : List Value).toArray s 0 0 A) (F0 m 0 ls []) from fun hP hS => h9 s.heap locs hP hS
  intro H locs hP hS
  refine lv_iload_n hx hb dX12_isRow_0 rfl (lv_at hl 0 rfl) ?_
  refine lv_bipush (v := 64) hx hb dX12_isRow_1 (by decide) ?_
  refine lv_icmp_lt (tgt := 16) hx hb dX12_isRow_3 (by decide) (fun h2 => ?_) (fun h2 => ?_)
  · replace hF := hF.1 h2
    exact B16 σ hF H locs ls hP hS (lv_sub hl [] rfl)
  · replace hF := hF.2 h2
    refine lv_iload_n hx hb dX12_isRow_6 rfl (lv_at hl 0 rfl) ?_
    refine lv_bipush (v := 96) hx hb dX12_isRow_7 (by decide) ?_
    refine lv_icmp_gt (tgt := 16) hx hb dX12_isRow_9 (by decide) (fun h3 => ?_) (fun h3 => ?_)
    · replace hF := hF.1 h3
      exact B16 σ hF H locs ls hP hS (lv_sub hl [] rfl)
    · replace hF := hF.2 h3
      refine lv_iconst (v := 1) hx hb dX12_isRow_12 (by decide) ?_
      refine lv_goto (tgt := 17) hx hb dX12_isRow_13 (by decide) ?_
      exact B17 σ 1 hF H locs ls hP hS (lv_sub hl [] rfl)
theorem dX12_isSome_0 : decode cX12_isSome 0 = .ok (.iload_n 0, 1) := by decide +kernel
theorem dX12_isSome_1 : decode cX12_isSome 1 = .ok (.ifCond .le 13, 3) := by decide +kernel
theorem dX12_isSome_4 : decode cX12_isSome 4 = .ok (.iload_n 0, 1) := by decide +kernel
theorem dX12_isSome_5 : decode cX12_isSome 5 = .ok (.bipush 32, 2) := by decide +kernel
theorem dX12_isSome_7 : decode cX12_isSome 7 = .ok (.if_icmp .gt 7, 3) := by decide +kernel
theorem dX12_isSome_10 : decode cX12_isSome 10 = .ok (.iconst 1, 1) := by decide +kernel
theorem dX12_isSome_11 : decode cX12_isSome 11 = .ok (.goto 4, 3) := by decide +kernel
theorem dX12_isSome_14 : decode cX12_isSome 14 = .ok (.iconst 0, 1) := by decide +kernel
theorem dX12_isSome_15 : decode cX12_isSome 15 = .ok (.ireturn, 1) := by decide +kernel
def wp_X12_isSome : List Cond := .code yX12_isSome cX12_isSome 1 (some .boolean) :: []
theorem wq_X12_isSome : wp_X12_isSome.all goodWord = true := wa_c rfl (by decide +kernel)
theorem wt_X12_isSome : GoodIn lw_tbl wp_X12_isSome := wm_c (List.mem_of_getElem? (i := 1293) (by decide +kernel)) rfl (goodIn_r _ [] (by decide +kernel) (by decide +kernel))
set_option maxHeartbeats 4000000 in
set_option maxRecDepth 100000 in
theorem c_X12_isSome (l : Launch) (D : va_G) (sz t0 : Nat) (σ : sm_S) (α : sm_A) (p1 : Int32) (K : Int32 → sm_S → Prop) (hF : mp_X12_isSome σ p1 K) : Met l yX12_isSome wp_X12_isSome { frames := 0, cells := 0, slots := 0, locals := 0 } (sm_P sm_wM sm_tM 40 D sz t0 σ α [.int p1]) (va_Qi K (sm_B sm_wM D α) (sm_a α 40 sz)) 0 0 (sm_a α 40 sz) := by
  refine Met.ofW (cc := cX12_isSome) (maxL := 1) (ret := (some .boolean)) (by decide) rfl ?_
  intro p e s m args below meth c s₁ B hml hv
  obtain ⟨rfl, hsz, hP, hK, hD0, hE⟩ := hv
  have hx := B.exec
  have hb := B.bytes
  have hr := B.returns
  have hts := atoms_spec (ws := wp_X12_isSome) B.pre
  have hown : s.vm.findClass RX12 = some m.cls := findClass_of_methodNamed B.named
  have hlocks := B.notSynchronized
  subst hsz
  have hD : sm_D (sm_a α 40 s.heap.size) α 40 := hD0.own
  have hA : ∀ q : Nat, s.heap.size ≤ q → sm_a α 40 s.heap.size q := fun q h => Or.inr h
  generalize hAe : sm_a α 40 s.heap.size = A at hD hA hE ⊢
  have hS : va_S A s.heap s.heap [] := va_S.rf
  have hl := lv_entry ([.int p1]) (n := 1) (Nat.le_of_ble_eq_true rfl)
  rw [lg_entry_eq]
  generalize (lg_sl ([.int p1]) ++ List.replicate (1 - (lg_sl ([.int p1])).length) Slot.unset).toArray = ls at hl ⊢
  have hl : lv_has ls 1 [(0, .int p1)] := hl
  have B15 : ∀ (σ : sm_S) (y0 : Int32), mp_X12_isSome_15 K σ y0 → sm_J p l e (headSpec wp_X12_isSome { frames := 0, cells := 0, slots := 0, locals := 0 }).room s m ([.int p1] : List Value).toArray below meth c (MQ below (va_Qi K (sm_B sm_wM D α) A) ([.int p1] : List Value).toArray s 0 0 A) D A 1 (sm_wM σ α) 15 [] [.int y0] := by
    intro σ y0 hF H locs ls hP hS hl
    unfold mp_X12_isSome_15 at hF
    obtain ⟨h1, hF⟩ := hF
    exact W.zret (v := y0) hx hb hr h1.1 (fun t ht hW => ⟨⟨y0, σ, rfl, hF, (by unfold sm_B; rw [ht]; exact hP)⟩, hS.F ht⟩) hS.2.2 dX12_isSome_15
  have B14 : ∀ (σ : sm_S), mp_X12_isSome_14 K σ → sm_J p l e (headSpec wp_X12_isSome { frames := 0, cells := 0, slots := 0, locals := 0 }).room s m ([.int p1] : List Value).toArray below meth c (MQ below (va_Qi K (sm_B sm_wM D α) A) ([.int p1] : List Value).toArray s 0 0 A) D A 1 (sm_wM σ α) 14 [] [] := by
    intro σ hF H locs ls hP hS hl
    unfold mp_X12_isSome_14 at hF
    refine lv_iconst (v := 0) hx hb dX12_isSome_14 (by decide) ?_
    exact B15 σ 0 hF H locs ls hP hS (lv_sub hl [] rfl)
  unfold mp_X12_isSome at hF
  revert hP hS
  generalize hLo : ([] : List Loc) = locs
  suffices h9 : ∀ (H : Heap) (locs : List Loc), va_P D vwCl (sm_wM σ α) H → va_S A s.heap H locs → W p l e (headSpec wp_X12_isSome { frames := 0, cells := 0, slots := 0, locals := 0 }).room s m ([.int p1] : List Value).toArray below meth c H locs 0 0 (MQ below (va_Qi K (sm_B sm_wM D α) A) ([.int p1] : List Value).toArray s 0 0 A) (F0 m 0 ls []) from fun hP hS => h9 s.heap locs hP hS
  intro H locs hP hS
  refine lv_iload_n hx hb dX12_isSome_0 rfl (lv_at hl 0 rfl) ?_
  refine lv_if_le (tgt := 14) hx hb dX12_isSome_1 (by decide) (fun h2 => ?_) (fun h2 => ?_)
  · replace hF := hF.1 h2
    exact B14 σ hF H locs ls hP hS (lv_sub hl [] rfl)
  · replace hF := hF.2 h2
    refine lv_iload_n hx hb dX12_isSome_4 rfl (lv_at hl 0 rfl) ?_
    refine lv_bipush (v := 32) hx hb dX12_isSome_5 (by decide) ?_
    refine lv_icmp_gt (tgt := 14) hx hb dX12_isSome_7 (by decide) (fun h3 => ?_) (fun h3 => ?_)
    · replace hF := hF.1 h3
      exact B14 σ hF H locs ls hP hS (lv_sub hl [] rfl)
    · replace hF := hF.2 h3
      refine lv_iconst (v := 1) hx hb dX12_isSome_10 (by decide) ?_
      refine lv_goto (tgt := 15) hx hb dX12_isSome_11 (by decide) ?_
      exact B15 σ 1 hF H locs ls hP hS (lv_sub hl [] rfl)
theorem dX12_isReference_0 : decode cX12_isReference 0 = .ok (.iload_n 0, 1) := by decide +kernel
theorem dX12_isReference_1 : decode cX12_isReference 1 = .ok (.ifCond .eq 13, 3) := by decide +kernel
theorem dX12_isReference_4 : decode cX12_isReference 4 = .ok (.iload_n 0, 1) := by decide +kernel
theorem dX12_isReference_5 : decode cX12_isReference 5 = .ok (.bipush 99, 2) := by decide +kernel
theorem dX12_isReference_7 : decode cX12_isReference 7 = .ok (.if_icmp .eq 7, 3) := by decide +kernel
theorem dX12_isReference_10 : decode cX12_isReference 10 = .ok (.iconst 1, 1) := by decide +kernel
theorem dX12_isReference_11 : decode cX12_isReference 11 = .ok (.goto 4, 3) := by decide +kernel
theorem dX12_isReference_14 : decode cX12_isReference 14 = .ok (.iconst 0, 1) := by decide +kernel
theorem dX12_isReference_15 : decode cX12_isReference 15 = .ok (.ireturn, 1) := by decide +kernel
def wp_X12_isReference : List Cond := .code yX12_isReference cX12_isReference 1 (some .boolean) :: []
theorem wq_X12_isReference : wp_X12_isReference.all goodWord = true := wa_c rfl (by decide +kernel)
theorem wt_X12_isReference : GoodIn lw_tbl wp_X12_isReference := wm_c (List.mem_of_getElem? (i := 1290) (by decide +kernel)) rfl (goodIn_r _ [] (by decide +kernel) (by decide +kernel))
set_option maxHeartbeats 4000000 in
set_option maxRecDepth 100000 in
theorem c_X12_isReference (l : Launch) (D : va_G) (sz t0 : Nat) (σ : sm_S) (α : sm_A) (p1 : Int32) (K : Int32 → sm_S → Prop) (hF : mp_X12_isReference σ p1 K) : Met l yX12_isReference wp_X12_isReference { frames := 0, cells := 0, slots := 0, locals := 0 } (sm_P sm_wM sm_tM 40 D sz t0 σ α [.int p1]) (va_Qi K (sm_B sm_wM D α) (sm_a α 40 sz)) 0 0 (sm_a α 40 sz) := by
  refine Met.ofW (cc := cX12_isReference) (maxL := 1) (ret := (some .boolean)) (by decide) rfl ?_
  intro p e s m args below meth c s₁ B hml hv
  obtain ⟨rfl, hsz, hP, hK, hD0, hE⟩ := hv
  have hx := B.exec
  have hb := B.bytes
  have hr := B.returns
  have hts := atoms_spec (ws := wp_X12_isReference) B.pre
  have hown : s.vm.findClass RX12 = some m.cls := findClass_of_methodNamed B.named
  have hlocks := B.notSynchronized
  subst hsz
  have hD : sm_D (sm_a α 40 s.heap.size) α 40 := hD0.own
  have hA : ∀ q : Nat, s.heap.size ≤ q → sm_a α 40 s.heap.size q := fun q h => Or.inr h
  generalize hAe : sm_a α 40 s.heap.size = A at hD hA hE ⊢
  have hS : va_S A s.heap s.heap [] := va_S.rf
  have hl := lv_entry ([.int p1]) (n := 1) (Nat.le_of_ble_eq_true rfl)
  rw [lg_entry_eq]
  generalize (lg_sl ([.int p1]) ++ List.replicate (1 - (lg_sl ([.int p1])).length) Slot.unset).toArray = ls at hl ⊢
  have hl : lv_has ls 1 [(0, .int p1)] := hl
  have B15 : ∀ (σ : sm_S) (y0 : Int32), mp_X12_isReference_15 K σ y0 → sm_J p l e (headSpec wp_X12_isReference { frames := 0, cells := 0, slots := 0, locals := 0 }).room s m ([.int p1] : List Value).toArray below meth c (MQ below (va_Qi K (sm_B sm_wM D α) A) ([.int p1] : List Value).toArray s 0 0 A) D A 1 (sm_wM σ α) 15 [] [.int y0] := by
    intro σ y0 hF H locs ls hP hS hl
    unfold mp_X12_isReference_15 at hF
    obtain ⟨h1, hF⟩ := hF
    exact W.zret (v := y0) hx hb hr h1.1 (fun t ht hW => ⟨⟨y0, σ, rfl, hF, (by unfold sm_B; rw [ht]; exact hP)⟩, hS.F ht⟩) hS.2.2 dX12_isReference_15
  have B14 : ∀ (σ : sm_S), mp_X12_isReference_14 K σ → sm_J p l e (headSpec wp_X12_isReference { frames := 0, cells := 0, slots := 0, locals := 0 }).room s m ([.int p1] : List Value).toArray below meth c (MQ below (va_Qi K (sm_B sm_wM D α) A) ([.int p1] : List Value).toArray s 0 0 A) D A 1 (sm_wM σ α) 14 [] [] := by
    intro σ hF H locs ls hP hS hl
    unfold mp_X12_isReference_14 at hF
    refine lv_iconst (v := 0) hx hb dX12_isReference_14 (by decide) ?_
    exact B15 σ 0 hF H locs ls hP hS (lv_sub hl [] rfl)
  unfold mp_X12_isReference at hF
  revert hP hS
  generalize hLo : ([] : List Loc) = locs
  suffices h9 : ∀ (H : Heap) (locs : List Loc), va_P D vwCl (sm_wM σ α) H → va_S A s.heap H locs → W p l e (headSpec wp_X12_isReference { frames := 0, cells := 0, slots := 0, locals := 0 }).room s m ([.int p1] : List Value).toArray below meth c H locs 0 0 (MQ below (va_Qi K (sm_B sm_wM D α) A) ([.int p1] : List Value).toArray s 0 0 A) (F0 m 0 ls []) from fun hP hS => h9 s.heap locs hP hS
  intro H locs hP hS
  refine lv_iload_n hx hb dX12_isReference_0 rfl (lv_at hl 0 rfl) ?_
  refine lv_if_eq (tgt := 14) hx hb dX12_isReference_1 (by decide) (fun h2 => ?_) (fun h2 => ?_)
  · replace hF := hF.1 h2
    exact B14 σ hF H locs ls hP hS (lv_sub hl [] rfl)
  · replace hF := hF.2 h2
    refine lv_iload_n hx hb dX12_isReference_4 rfl (lv_at hl 0 rfl) ?_
    refine lv_bipush (v := 99) hx hb dX12_isReference_5 (by decide) ?_
    refine lv_icmp_eq (tgt := 14) hx hb dX12_isReference_7 (by decide) (fun h3 => ?_) (fun h3 => ?_)
    · replace hF := hF.1 h3
      exact B14 σ hF H locs ls hP hS (lv_sub hl [] rfl)
    · replace hF := hF.2 h3
      refine lv_iconst (v := 1) hx hb dX12_isReference_10 (by decide) ?_
      refine lv_goto (tgt := 15) hx hb dX12_isReference_11 (by decide) ?_
      exact B15 σ 1 hF H locs ls hP hS (lv_sub hl [] rfl)
theorem dX12_goes_0 : decode cX12_goes 0 = .ok (.iload_n 1, 1) := by decide +kernel
theorem dX12_goes_1 : decode cX12_goes 1 = .ok (.iload_n 2, 1) := by decide +kernel
theorem dX12_goes_2 : decode cX12_goes 2 = .ok (.if_icmp .eq 52, 3) := by decide +kernel
theorem dX12_goes_5 : decode cX12_goes 5 = .ok (.iload_n 1, 1) := by decide +kernel
theorem dX12_goes_6 : decode cX12_goes 6 = .ok (.bipush 97, 2) := by decide +kernel
theorem dX12_goes_8 : decode cX12_goes 8 = .ok (.if_icmp .ne 16, 3) := by decide +kernel
theorem dX12_goes_11 : decode cX12_goes 11 = .ok (.iload_n 2, 1) := by decide +kernel
theorem dX12_goes_12 : decode cX12_goes 12 = .ok (.invokestatic 3, 3) := by decide +kernel
theorem dX12_goes_15 : decode cX12_goes 15 = .ok (.ifCond .eq 9, 3) := by decide +kernel
theorem dX12_goes_18 : decode cX12_goes 18 = .ok (.iload_n 2, 1) := by decide +kernel
theorem dX12_goes_19 : decode cX12_goes 19 = .ok (.bipush 98, 2) := by decide +kernel
theorem dX12_goes_21 : decode cX12_goes 21 = .ok (.if_icmp .ne 33, 3) := by decide +kernel
theorem dX12_goes_24 : decode cX12_goes 24 = .ok (.iload_n 1, 1) := by decide +kernel
theorem dX12_goes_25 : decode cX12_goes 25 = .ok (.invokestatic 7, 3) := by decide +kernel
theorem dX12_goes_28 : decode cX12_goes 28 = .ok (.ifCond .eq 30, 3) := by decide +kernel
theorem dX12_goes_31 : decode cX12_goes 31 = .ok (.iload_n 2, 1) := by decide +kernel
theorem dX12_goes_32 : decode cX12_goes 32 = .ok (.invokestatic 7, 3) := by decide +kernel
theorem dX12_goes_35 : decode cX12_goes 35 = .ok (.ifCond .eq 23, 3) := by decide +kernel
theorem dX12_goes_38 : decode cX12_goes 38 = .ok (.aload_n 0, 1) := by decide +kernel
theorem dX12_goes_39 : decode cX12_goes 39 = .ok (.getfield 10, 3) := by decide +kernel
theorem dX12_goes_42 : decode cX12_goes 42 = .ok (.iload_n 1, 1) := by decide +kernel
theorem dX12_goes_43 : decode cX12_goes 43 = .ok (.iconst 1, 1) := by decide +kernel
theorem dX12_goes_44 : decode cX12_goes 44 = .ok (.isub, 1) := by decide +kernel
theorem dX12_goes_45 : decode cX12_goes 45 = .ok (.iload_n 2, 1) := by decide +kernel
theorem dX12_goes_46 : decode cX12_goes 46 = .ok (.iconst 1, 1) := by decide +kernel
theorem dX12_goes_47 : decode cX12_goes 47 = .ok (.isub, 1) := by decide +kernel
theorem dX12_goes_48 : decode cX12_goes 48 = .ok (.invokevirtual 14, 3) := by decide +kernel
theorem dX12_goes_51 : decode cX12_goes 51 = .ok (.ifCond .eq 7, 3) := by decide +kernel
theorem dX12_goes_54 : decode cX12_goes 54 = .ok (.iconst 1, 1) := by decide +kernel
theorem dX12_goes_55 : decode cX12_goes 55 = .ok (.goto 4, 3) := by decide +kernel
theorem dX12_goes_58 : decode cX12_goes 58 = .ok (.iconst 0, 1) := by decide +kernel
theorem dX12_goes_59 : decode cX12_goes 59 = .ok (.ireturn, 1) := by decide +kernel
def wp_X12_goes : List Cond := .code yX12_goes cX12_goes 3 (some .boolean) :: (((([.fieldLink RX12 10 "SteadyMachineModel" "image" "LSteadyMachineModel$Image;"] ++ (va_wsS RX12 7 yX12_isSome wp_X12_isSome)) ++ (wsV RX12 14 RX11 yX11_isA wp_X11_isA)) ++ (va_wsS RX12 3 yX12_isReference wp_X12_isReference)) ++ wsX120)
theorem wq_X12_goes : wp_X12_goes.all goodWord = true := wa_c rfl (wa_a (wa_a (wa_a (wa_a (by decide +kernel) (wa_S wq_X12_isSome)) (wa_V wq_X11_isA)) (wa_S wq_X12_isReference)) uq_X12)
theorem wt_X12_goes : GoodIn lw_tbl wp_X12_goes := wm_c (List.mem_of_getElem? (i := 1341) (by decide +kernel)) rfl (wm_a (wm_a (wm_a (wm_a (goodIn_r _ [1490] (by decide +kernel) (by decide +kernel)) (wm_a (goodIn_r _ [1291, 1292, 147] (by decide +kernel) (by decide +kernel)) wt_X12_isSome)) (wm_a (goodIn_r _ [1294, 1295, 1296, 148] (by decide +kernel) (by decide +kernel)) wt_X11_isA)) (wm_a (goodIn_r _ [1288, 1289, 147] (by decide +kernel) (by decide +kernel)) wt_X12_isReference)) ut_X12)
theorem wg_X12_goes_X12_isSome_7 : GoodIn wp_X12_goes (va_wsS RX12 7 yX12_isSome wp_X12_isSome) := goodIn_sub (fun w h => List.mem_cons_of_mem _ (List.mem_append_left _ (List.mem_append_left _ (List.mem_append_left _ (List.mem_append_right _ h))))) (wa_S wq_X12_isSome)
theorem wg_X12_goes_X11_isA_14 : GoodIn wp_X12_goes (wsV RX12 14 RX11 yX11_isA wp_X11_isA) := goodIn_sub (fun w h => List.mem_cons_of_mem _ (List.mem_append_left _ (List.mem_append_left _ (List.mem_append_right _ h)))) (wa_V wq_X11_isA)
theorem wg_X12_goes_X12_isReference_3 : GoodIn wp_X12_goes (va_wsS RX12 3 yX12_isReference wp_X12_isReference) := goodIn_sub (fun w h => List.mem_cons_of_mem _ (List.mem_append_left _ (List.mem_append_right _ h))) (wa_S wq_X12_isReference)
theorem wi_X12_goes_X12 : ∀ w ∈ wsX120, w ∈ wp_X12_goes := fun w h => List.mem_cons_of_mem _ (List.mem_append_right _ h)
set_option maxHeartbeats 4000000 in
set_option maxRecDepth 100000 in
theorem c_X12_goes (l : Launch) (D : va_G) (sz t0 : Nat) (σ : sm_S) (α : sm_A) (p1 : Int32) (p2 : Int32) (K : Int32 → sm_S → Prop) (hF : mp_X12_goes σ p1 p2 K) : Met l yX12_goes wp_X12_goes { frames := 2, cells := 0, slots := 0, locals := 44 } (sm_P sm_wM sm_tM 40 D sz t0 σ α [.ref (α.1 1), .int p1, .int p2]) (va_Qi K (sm_B sm_wM D α) (sm_a α 40 sz)) 0 0 (sm_a α 40 sz) := by
  refine Met.ofW (cc := cX12_goes) (maxL := 3) (ret := (some .boolean)) (by decide) rfl ?_
  intro p e s m args below meth c s₁ B hml hv
  obtain ⟨rfl, hsz, hP, hK, hD0, hE⟩ := hv
  have hx := B.exec
  have hb := B.bytes
  have hr := B.returns
  have hts := atoms_spec (ws := wp_X12_goes) B.pre
  have hown : s.vm.findClass RX12 = some m.cls := findClass_of_methodNamed B.named
  have hlocks := B.notSynchronized
  subst hsz
  have hD : sm_D (sm_a α 40 s.heap.size) α 40 := hD0.own
  have hA : ∀ q : Nat, s.heap.size ≤ q → sm_a α 40 s.heap.size q := fun q h => Or.inr h
  generalize hAe : sm_a α 40 s.heap.size = A at hD hA hE ⊢
  have hS : va_S A s.heap s.heap [] := va_S.rf
  have in_X12 : ∀ w ∈ wsX120, w ∈ wp_X12_goes := wi_X12_goes_X12
  have k_0 := hts (.fieldLink RX12 10 "SteadyMachineModel" "image" "LSteadyMachineModel$Image;") (by decide +kernel)
  have hl := lv_entry ([.ref (α.1 1), .int p1, .int p2]) (n := 3) (Nat.le_of_ble_eq_true rfl)
  rw [lg_entry_eq]
  generalize (lg_sl ([.ref (α.1 1), .int p1, .int p2]) ++ List.replicate (3 - (lg_sl ([.ref (α.1 1), .int p1, .int p2])).length) Slot.unset).toArray = ls at hl ⊢
  have hl : lv_has ls 3 [(0, .ref (α.1 1)), (1, .int p1), (2, .int p2)] := hl
  have B59 : ∀ (σ : sm_S) (y0 : Int32), mp_X12_goes_59 K σ y0 → sm_J p l e (headSpec wp_X12_goes { frames := 2, cells := 0, slots := 0, locals := 44 }).room s m ([.ref (α.1 1), .int p1, .int p2] : List Value).toArray below meth c (MQ below (va_Qi K (sm_B sm_wM D α) A) ([.ref (α.1 1), .int p1, .int p2] : List Value).toArray s 0 0 A) D A 3 (sm_wM σ α) 59 [] [.int y0] := by
    intro σ y0 hF H locs ls hP hS hl
    unfold mp_X12_goes_59 at hF
    obtain ⟨h1, hF⟩ := hF
    exact W.zret (v := y0) hx hb hr h1.1 (fun t ht hW => ⟨⟨y0, σ, rfl, hF, (by unfold sm_B; rw [ht]; exact hP)⟩, hS.F ht⟩) hS.2.2 dX12_goes_59
  have B58 : ∀ (σ : sm_S), mp_X12_goes_58 K σ → sm_J p l e (headSpec wp_X12_goes { frames := 2, cells := 0, slots := 0, locals := 44 }).room s m ([.ref (α.1 1), .int p1, .int p2] : List Value).toArray below meth c (MQ below (va_Qi K (sm_B sm_wM D α) A) ([.ref (α.1 1), .int p1, .int p2] : List Value).toArray s 0 0 A) D A 3 (sm_wM σ α) 58 [] [] := by
    intro σ hF H locs ls hP hS hl
    unfold mp_X12_goes_58 at hF
    refine lv_iconst (v := 0) hx hb dX12_goes_58 (by decide) ?_
    exact B59 σ 0 hF H locs ls hP hS (lv_sub hl [] rfl)
  have B54 : ∀ (σ : sm_S), mp_X12_goes_54 K σ → sm_J p l e (headSpec wp_X12_goes { frames := 2, cells := 0, slots := 0, locals := 44 }).room s m ([.ref (α.1 1), .int p1, .int p2] : List Value).toArray below meth c (MQ below (va_Qi K (sm_B sm_wM D α) A) ([.ref (α.1 1), .int p1, .int p2] : List Value).toArray s 0 0 A) D A 3 (sm_wM σ α) 54 [] [] := by
    intro σ hF H locs ls hP hS hl
    unfold mp_X12_goes_54 at hF
    refine lv_iconst (v := 1) hx hb dX12_goes_54 (by decide) ?_
    refine lv_goto (tgt := 59) hx hb dX12_goes_55 (by decide) ?_
    exact B59 σ 1 hF H locs ls hP hS (lv_sub hl [] rfl)
  have B24 : ∀ (σ : sm_S) (x1 : Int32) (x2 : Int32), mp_X12_goes_24 K σ x1 x2 → sm_J p l e (headSpec wp_X12_goes { frames := 2, cells := 0, slots := 0, locals := 44 }).room s m ([.ref (α.1 1), .int p1, .int p2] : List Value).toArray below meth c (MQ below (va_Qi K (sm_B sm_wM D α) A) ([.ref (α.1 1), .int p1, .int p2] : List Value).toArray s 0 0 A) D A 3 (sm_wM σ α) 24 [(0, .ref (α.1 1)), (1, .int x1), (2, .int x2)] [] := by
    intro σ x1 x2 hF H locs ls hP hS hl
    unfold mp_X12_goes_24 at hF
    refine lv_iload_n hx hb dX12_goes_24 rfl (lv_at hl 1 rfl) ?_
    refine sm_si (As := [.int x1]) (rest := []) hP hK hD hE hS hA ⟨hx, hb, hml, hown, hts⟩ hl.1 (c_X12_isSome l D H.size t0 σ α x1 _ hF) (va_cwS 1 hts wg_X12_goes_X12_isSome_7 rfl rfl rfl (by decide +kernel) ⟨Nat.le_of_ble_eq_true rfl, Nat.le_of_ble_eq_true rfl⟩) rfl rfl (Nat.le_of_ble_eq_true rfl) dX12_goes_25 ⟨Nat.zero_le _, Nat.zero_le _⟩ (fun r3 σ2 H locs hF hP hS => ?_)
    refine lv_if_eq (tgt := 58) hx hb dX12_goes_28 (by decide) (fun h4 => ?_) (fun h4 => ?_)
    · replace hF := hF.1 h4
      exact B58 σ2 hF H locs ls hP hS (lv_sub hl [] rfl)
    · replace hF := hF.2 h4
      refine lv_iload_n hx hb dX12_goes_31 rfl (lv_at hl 2 rfl) ?_
      refine sm_si (As := [.int x2]) (rest := []) hP hK hD hE hS hA ⟨hx, hb, hml, hown, hts⟩ hl.1 (c_X12_isSome l D H.size t0 σ2 α x2 _ hF) (va_cwS 1 hts wg_X12_goes_X12_isSome_7 rfl rfl rfl (by decide +kernel) ⟨Nat.le_of_ble_eq_true rfl, Nat.le_of_ble_eq_true rfl⟩) rfl rfl (Nat.le_of_ble_eq_true rfl) dX12_goes_32 ⟨Nat.zero_le _, Nat.zero_le _⟩ (fun r6 σ5 H locs hF hP hS => ?_)
      refine lv_if_eq (tgt := 58) hx hb dX12_goes_35 (by decide) (fun h7 => ?_) (fun h7 => ?_)
      · replace hF := hF.1 h7
        exact B58 σ5 hF H locs ls hP hS (lv_sub hl [] rfl)
      · replace hF := hF.2 h7
        refine lv_aload_n hx hb dX12_goes_38 rfl (lv_at hl 0 rfl) ?_
        refine va_get (D := D) (ci := 12) (v := .ref (α.1 0)) (C := RX12) (T := TX12) (N := 42) hx hb hts in_X12 hown hK hP 1 (sm_gX12 σ5 α) rfl 0 (by decide) k_0 (fun _ h9 => h9) rfl dX12_goes_39 ?_
        refine lv_iload_n hx hb dX12_goes_42 rfl (lv_at hl 1 rfl) ?_
        refine lv_iconst (v := 1) hx hb dX12_goes_43 (by decide) ?_
        refine lv_isub hx hb dX12_goes_44 ?_
        refine lv_iload_n hx hb dX12_goes_45 rfl (lv_at hl 2 rfl) ?_
        refine lv_iconst (v := 1) hx hb dX12_goes_46 (by decide) ?_
        refine lv_isub hx hb dX12_goes_47 ?_
        refine sm_vi (As := [.int (x1 - 1), .int (x2 - 1)]) (rest := []) hP hK hD hE hS hA ⟨hx, hb, hml, hown, hts⟩ hl.1 (c_X11_isA l D H.size t0 σ5 α (x1 - 1) (x2 - 1) _ hF) (cwV 2 hts wg_X12_goes_X11_isA_14 rfl rfl rfl (by decide +kernel) ⟨Nat.le_of_ble_eq_true rfl, Nat.le_of_ble_eq_true rfl⟩) (va_recv hK hP (ci := 11) (q0 := 0) rfl (sm_gX11 σ5 α)) rfl rfl (Nat.le_of_ble_eq_true rfl) dX12_goes_48 ⟨Nat.zero_le _, Nat.zero_le _⟩ (fun r9 σ8 H locs hF hP hS => ?_)
        refine lv_if_eq (tgt := 58) hx hb dX12_goes_51 (by decide) (fun h10 => ?_) (fun h10 => ?_)
        · replace hF := hF.1 h10
          exact B58 σ8 hF H locs ls hP hS (lv_sub hl [] rfl)
        · replace hF := hF.2 h10
          exact B54 σ8 hF H locs ls hP hS (lv_sub hl [] rfl)
  unfold mp_X12_goes at hF
  revert hP hS
  generalize hLo : ([] : List Loc) = locs
  suffices h9 : ∀ (H : Heap) (locs : List Loc), va_P D vwCl (sm_wM σ α) H → va_S A s.heap H locs → W p l e (headSpec wp_X12_goes { frames := 2, cells := 0, slots := 0, locals := 44 }).room s m ([.ref (α.1 1), .int p1, .int p2] : List Value).toArray below meth c H locs 0 0 (MQ below (va_Qi K (sm_B sm_wM D α) A) ([.ref (α.1 1), .int p1, .int p2] : List Value).toArray s 0 0 A) (F0 m 0 ls []) from fun hP hS => h9 s.heap locs hP hS
  intro H locs hP hS
  refine lv_iload_n hx hb dX12_goes_0 rfl (lv_at hl 1 rfl) ?_
  refine lv_iload_n hx hb dX12_goes_1 rfl (lv_at hl 2 rfl) ?_
  refine lv_icmp_eq (tgt := 54) hx hb dX12_goes_2 (by decide) (fun h11 => ?_) (fun h11 => ?_)
  · replace hF := hF.1 h11
    exact B54 σ hF H locs ls hP hS (lv_sub hl [] rfl)
  · replace hF := hF.2 h11
    refine lv_iload_n hx hb dX12_goes_5 rfl (lv_at hl 1 rfl) ?_
    refine lv_bipush (v := 97) hx hb dX12_goes_6 (by decide) ?_
    refine lv_icmp_ne (tgt := 24) hx hb dX12_goes_8 (by decide) (fun h12 => ?_) (fun h12 => ?_)
    · replace hF := hF.1 h12
      exact B24 σ p1 p2 hF H locs ls hP hS (lv_sub hl [0, 1, 2] rfl)
    · replace hF := hF.2 h12
      refine lv_iload_n hx hb dX12_goes_11 rfl (lv_at hl 2 rfl) ?_
      refine sm_si (As := [.int p2]) (rest := []) hP hK hD hE hS hA ⟨hx, hb, hml, hown, hts⟩ hl.1 (c_X12_isReference l D H.size t0 σ α p2 _ hF) (va_cwS 1 hts wg_X12_goes_X12_isReference_3 rfl rfl rfl (by decide +kernel) ⟨Nat.le_of_ble_eq_true rfl, Nat.le_of_ble_eq_true rfl⟩) rfl rfl (Nat.le_of_ble_eq_true rfl) dX12_goes_12 ⟨Nat.zero_le _, Nat.zero_le _⟩ (fun r14 σ13 H locs hF hP hS => ?_)
      refine lv_if_eq (tgt := 24) hx hb dX12_goes_15 (by decide) (fun h15 => ?_) (fun h15 => ?_)
      · replace hF := hF.1 h15
        exact B24 σ13 p1 p2 hF H locs ls hP hS (lv_sub hl [0, 1, 2] rfl)
      · replace hF := hF.2 h15
        refine lv_iload_n hx hb dX12_goes_18 rfl (lv_at hl 2 rfl) ?_
        refine lv_bipush (v := 98) hx hb dX12_goes_19 (by decide) ?_
        refine lv_icmp_ne (tgt := 54) hx hb dX12_goes_21 (by decide) (fun h16 => ?_) (fun h16 => ?_)
        · replace hF := hF.1 h16
          exact B54 σ13 hF H locs ls hP hS (lv_sub hl [] rfl)
        · replace hF := hF.2 h16
          exact B24 σ13 p1 p2 hF H locs ls hP hS (lv_sub hl [0, 1, 2] rfl)
theorem dX12_meet_0 : decode cX12_meet 0 = .ok (.iload_n 1, 1) := by decide +kernel
theorem dX12_meet_1 : decode cX12_meet 1 = .ok (.iload_n 2, 1) := by decide +kernel
theorem dX12_meet_2 : decode cX12_meet 2 = .ok (.if_icmp .ne 5, 3) := by decide +kernel
theorem dX12_meet_5 : decode cX12_meet 5 = .ok (.iload_n 1, 1) := by decide +kernel
theorem dX12_meet_6 : decode cX12_meet 6 = .ok (.ireturn, 1) := by decide +kernel
theorem dX12_meet_7 : decode cX12_meet 7 = .ok (.iload_n 1, 1) := by decide +kernel
theorem dX12_meet_8 : decode cX12_meet 8 = .ok (.invokestatic 3, 3) := by decide +kernel
theorem dX12_meet_11 : decode cX12_meet 11 = .ok (.ifCond .eq 10, 3) := by decide +kernel
theorem dX12_meet_14 : decode cX12_meet 14 = .ok (.iload_n 2, 1) := by decide +kernel
theorem dX12_meet_15 : decode cX12_meet 15 = .ok (.invokestatic 3, 3) := by decide +kernel
theorem dX12_meet_18 : decode cX12_meet 18 = .ok (.ifCond .ne 6, 3) := by decide +kernel
theorem dX12_meet_21 : decode cX12_meet 21 = .ok (.bipush 99, 2) := by decide +kernel
theorem dX12_meet_23 : decode cX12_meet 23 = .ok (.ireturn, 1) := by decide +kernel
theorem dX12_meet_24 : decode cX12_meet 24 = .ok (.iload_n 1, 1) := by decide +kernel
theorem dX12_meet_25 : decode cX12_meet 25 = .ok (.bipush 97, 2) := by decide +kernel
theorem dX12_meet_27 : decode cX12_meet 27 = .ok (.if_icmp .eq 9, 3) := by decide +kernel
theorem dX12_meet_30 : decode cX12_meet 30 = .ok (.iload_n 2, 1) := by decide +kernel
theorem dX12_meet_31 : decode cX12_meet 31 = .ok (.bipush 97, 2) := by decide +kernel
theorem dX12_meet_33 : decode cX12_meet 33 = .ok (.if_icmp .ne 15, 3) := by decide +kernel
theorem dX12_meet_36 : decode cX12_meet 36 = .ok (.iload_n 1, 1) := by decide +kernel
theorem dX12_meet_37 : decode cX12_meet 37 = .ok (.bipush 97, 2) := by decide +kernel
theorem dX12_meet_39 : decode cX12_meet 39 = .ok (.if_icmp .ne 7, 3) := by decide +kernel
theorem dX12_meet_42 : decode cX12_meet 42 = .ok (.iload_n 2, 1) := by decide +kernel
theorem dX12_meet_43 : decode cX12_meet 43 = .ok (.goto 4, 3) := by decide +kernel
theorem dX12_meet_46 : decode cX12_meet 46 = .ok (.iload_n 1, 1) := by decide +kernel
theorem dX12_meet_47 : decode cX12_meet 47 = .ok (.ireturn, 1) := by decide +kernel
theorem dX12_meet_48 : decode cX12_meet 48 = .ok (.iload_n 1, 1) := by decide +kernel
theorem dX12_meet_49 : decode cX12_meet 49 = .ok (.invokestatic 7, 3) := by decide +kernel
theorem dX12_meet_52 : decode cX12_meet 52 = .ok (.ifCond .eq 58, 3) := by decide +kernel
theorem dX12_meet_55 : decode cX12_meet 55 = .ok (.iload_n 2, 1) := by decide +kernel
theorem dX12_meet_56 : decode cX12_meet 56 = .ok (.invokestatic 7, 3) := by decide +kernel
theorem dX12_meet_59 : decode cX12_meet 59 = .ok (.ifCond .eq 51, 3) := by decide +kernel
theorem dX12_meet_62 : decode cX12_meet 62 = .ok (.iload_n 1, 1) := by decide +kernel
theorem dX12_meet_63 : decode cX12_meet 63 = .ok (.iconst 1, 1) := by decide +kernel
theorem dX12_meet_64 : decode cX12_meet 64 = .ok (.isub, 1) := by decide +kernel
theorem dX12_meet_65 : decode cX12_meet 65 = .ok (.istore_n 3, 1) := by decide +kernel
theorem dX12_meet_66 : decode cX12_meet 66 = .ok (.iload_n 3, 1) := by decide +kernel
theorem dX12_meet_67 : decode cX12_meet 67 = .ok (.ifCond .lt 30, 3) := by decide +kernel
theorem dX12_meet_70 : decode cX12_meet 70 = .ok (.aload_n 0, 1) := by decide +kernel
theorem dX12_meet_71 : decode cX12_meet 71 = .ok (.getfield 10, 3) := by decide +kernel
theorem dX12_meet_74 : decode cX12_meet 74 = .ok (.iload_n 2, 1) := by decide +kernel
theorem dX12_meet_75 : decode cX12_meet 75 = .ok (.iconst 1, 1) := by decide +kernel
theorem dX12_meet_76 : decode cX12_meet 76 = .ok (.isub, 1) := by decide +kernel
theorem dX12_meet_77 : decode cX12_meet 77 = .ok (.iload_n 3, 1) := by decide +kernel
theorem dX12_meet_78 : decode cX12_meet 78 = .ok (.invokevirtual 14, 3) := by decide +kernel
theorem dX12_meet_81 : decode cX12_meet 81 = .ok (.ifCond .ne 16, 3) := by decide +kernel
theorem dX12_meet_84 : decode cX12_meet 84 = .ok (.aload_n 0, 1) := by decide +kernel
theorem dX12_meet_85 : decode cX12_meet 85 = .ok (.getfield 10, 3) := by decide +kernel
theorem dX12_meet_88 : decode cX12_meet 88 = .ok (.getfield 20, 3) := by decide +kernel
theorem dX12_meet_91 : decode cX12_meet 91 = .ok (.iload_n 3, 1) := by decide +kernel
theorem dX12_meet_92 : decode cX12_meet 92 = .ok (.iaload, 1) := by decide +kernel
theorem dX12_meet_93 : decode cX12_meet 93 = .ok (.istore_n 3, 1) := by decide +kernel
theorem dX12_meet_94 : decode cX12_meet 94 = .ok (.goto (-28), 3) := by decide +kernel
theorem dX12_meet_97 : decode cX12_meet 97 = .ok (.iload_n 3, 1) := by decide +kernel
theorem dX12_meet_98 : decode cX12_meet 98 = .ok (.ifCond .ge 8, 3) := by decide +kernel
theorem dX12_meet_101 : decode cX12_meet 101 = .ok (.bipush 98, 2) := by decide +kernel
theorem dX12_meet_103 : decode cX12_meet 103 = .ok (.goto 6, 3) := by decide +kernel
theorem dX12_meet_106 : decode cX12_meet 106 = .ok (.iconst 1, 1) := by decide +kernel
theorem dX12_meet_107 : decode cX12_meet 107 = .ok (.iload_n 3, 1) := by decide +kernel
theorem dX12_meet_108 : decode cX12_meet 108 = .ok (.iadd, 1) := by decide +kernel
theorem dX12_meet_109 : decode cX12_meet 109 = .ok (.ireturn, 1) := by decide +kernel
theorem dX12_meet_110 : decode cX12_meet 110 = .ok (.bipush 98, 2) := by decide +kernel
theorem dX12_meet_112 : decode cX12_meet 112 = .ok (.ireturn, 1) := by decide +kernel
def wp_X12_meet : List Cond := .code yX12_meet cX12_meet 4 (some .int) :: ((((([.fieldLink RX12 10 "SteadyMachineModel" "image" "LSteadyMachineModel$Image;"] ++ (wsV RX12 14 RX11 yX11_isA wp_X11_isA)) ++ (va_wsS RX12 3 yX12_isReference wp_X12_isReference)) ++ (va_wsS RX12 7 yX12_isSome wp_X12_isSome)) ++ wsX110) ++ wsX120)
theorem wq_X12_meet : wp_X12_meet.all goodWord = true := wa_c rfl (wa_a (wa_a (wa_a (wa_a (wa_a (by decide +kernel) (wa_V wq_X11_isA)) (wa_S wq_X12_isReference)) (wa_S wq_X12_isSome)) uq_X11) uq_X12)
theorem wt_X12_meet : GoodIn lw_tbl wp_X12_meet := wm_c (List.mem_of_getElem? (i := 1287) (by decide +kernel)) rfl (wm_a (wm_a (wm_a (wm_a (wm_a (goodIn_r _ [1490] (by decide +kernel) (by decide +kernel)) (wm_a (goodIn_r _ [1294, 1295, 1296, 148] (by decide +kernel) (by decide +kernel)) wt_X11_isA)) (wm_a (goodIn_r _ [1288, 1289, 147] (by decide +kernel) (by decide +kernel)) wt_X12_isReference)) (wm_a (goodIn_r _ [1291, 1292, 147] (by decide +kernel) (by decide +kernel)) wt_X12_isSome)) ut_X11) ut_X12)
theorem wg_X12_meet_X11_isA_14 : GoodIn wp_X12_meet (wsV RX12 14 RX11 yX11_isA wp_X11_isA) := goodIn_sub (fun w h => List.mem_cons_of_mem _ (List.mem_append_left _ (List.mem_append_left _ (List.mem_append_left _ (List.mem_append_left _ (List.mem_append_right _ h)))))) (wa_V wq_X11_isA)
theorem wg_X12_meet_X12_isReference_3 : GoodIn wp_X12_meet (va_wsS RX12 3 yX12_isReference wp_X12_isReference) := goodIn_sub (fun w h => List.mem_cons_of_mem _ (List.mem_append_left _ (List.mem_append_left _ (List.mem_append_left _ (List.mem_append_right _ h))))) (wa_S wq_X12_isReference)
theorem wg_X12_meet_X12_isSome_7 : GoodIn wp_X12_meet (va_wsS RX12 7 yX12_isSome wp_X12_isSome) := goodIn_sub (fun w h => List.mem_cons_of_mem _ (List.mem_append_left _ (List.mem_append_left _ (List.mem_append_right _ h)))) (wa_S wq_X12_isSome)
theorem wi_X12_meet_X11 : ∀ w ∈ wsX110, w ∈ wp_X12_meet := fun w h => List.mem_cons_of_mem _ (List.mem_append_left _ (List.mem_append_right _ h))
theorem wi_X12_meet_X12 : ∀ w ∈ wsX120, w ∈ wp_X12_meet := fun w h => List.mem_cons_of_mem _ (List.mem_append_right _ h)
set_option maxHeartbeats 4000000 in
set_option maxRecDepth 100000 in
theorem c_X12_meet (l : Launch) (D : va_G) (sz t0 : Nat) (σ : sm_S) (α : sm_A) (p1 : Int32) (p2 : Int32) (K : Int32 → sm_S → Prop) (hF : mp_X12_meet σ p1 p2 K) : Met l yX12_meet wp_X12_meet { frames := 2, cells := 0, slots := 0, locals := 44 } (sm_P sm_wM sm_tM 40 D sz t0 σ α [.ref (α.1 1), .int p1, .int p2]) (va_Qi K (sm_B sm_wM D α) (sm_a α 40 sz)) 0 0 (sm_a α 40 sz) := by
  refine Met.ofW (cc := cX12_meet) (maxL := 4) (ret := (some .int)) (by decide) rfl ?_
  intro p e s m args below meth c s₁ B hml hv
  obtain ⟨rfl, hsz, hP, hK, hD0, hE⟩ := hv
  have hx := B.exec
  have hb := B.bytes
  have hr := B.returns
  have hts := atoms_spec (ws := wp_X12_meet) B.pre
  have hown : s.vm.findClass RX12 = some m.cls := findClass_of_methodNamed B.named
  have hlocks := B.notSynchronized
  subst hsz
  have hD : sm_D (sm_a α 40 s.heap.size) α 40 := hD0.own
  have hA : ∀ q : Nat, s.heap.size ≤ q → sm_a α 40 s.heap.size q := fun q h => Or.inr h
  generalize hAe : sm_a α 40 s.heap.size = A at hD hA hE ⊢
  have hS : va_S A s.heap s.heap [] := va_S.rf
  have in_X11 : ∀ w ∈ wsX110, w ∈ wp_X12_meet := wi_X12_meet_X11
  have in_X12 : ∀ w ∈ wsX120, w ∈ wp_X12_meet := wi_X12_meet_X12
  have k_0 := hts (.fieldLink RX12 10 "SteadyMachineModel" "image" "LSteadyMachineModel$Image;") (by decide +kernel)
  have hl := lv_entry ([.ref (α.1 1), .int p1, .int p2]) (n := 4) (Nat.le_of_ble_eq_true rfl)
  rw [lg_entry_eq]
  generalize (lg_sl ([.ref (α.1 1), .int p1, .int p2]) ++ List.replicate (4 - (lg_sl ([.ref (α.1 1), .int p1, .int p2])).length) Slot.unset).toArray = ls at hl ⊢
  have hl : lv_has ls 4 [(0, .ref (α.1 1)), (1, .int p1), (2, .int p2)] := hl
  have B110 : ∀ (σ : sm_S), mp_X12_meet_110 K σ → sm_J p l e (headSpec wp_X12_meet { frames := 2, cells := 0, slots := 0, locals := 44 }).room s m ([.ref (α.1 1), .int p1, .int p2] : List Value).toArray below meth c (MQ below (va_Qi K (sm_B sm_wM D α) A) ([.ref (α.1 1), .int p1, .int p2] : List Value).toArray s 0 0 A) D A 4 (sm_wM σ α) 110 [] [] := by
    intro σ hF H locs ls hP hS hl
    unfold mp_X12_meet_110 at hF
    refine lv_bipush (v := 98) hx hb dX12_meet_110 (by decide) ?_
    exact W.iret (v := 98) hx hb hr (fun t ht hW => ⟨⟨98, σ, rfl, hF, (by unfold sm_B; rw [ht]; exact hP)⟩, hS.F ht⟩) hS.2.2 dX12_meet_112
  have B109 : ∀ (σ : sm_S) (y0 : Int32), mp_X12_meet_109 K σ y0 → sm_J p l e (headSpec wp_X12_meet { frames := 2, cells := 0, slots := 0, locals := 44 }).room s m ([.ref (α.1 1), .int p1, .int p2] : List Value).toArray below meth c (MQ below (va_Qi K (sm_B sm_wM D α) A) ([.ref (α.1 1), .int p1, .int p2] : List Value).toArray s 0 0 A) D A 4 (sm_wM σ α) 109 [] [.int y0] := by
    intro σ y0 hF H locs ls hP hS hl
    unfold mp_X12_meet_109 at hF
    exact W.iret (v := y0) hx hb hr (fun t ht hW => ⟨⟨y0, σ, rfl, hF, (by unfold sm_B; rw [ht]; exact hP)⟩, hS.F ht⟩) hS.2.2 dX12_meet_109
  have B97 : ∀ (σ : sm_S) (x3 : Int32), mp_X12_meet_97 K σ x3 → sm_J p l e (headSpec wp_X12_meet { frames := 2, cells := 0, slots := 0, locals := 44 }).room s m ([.ref (α.1 1), .int p1, .int p2] : List Value).toArray below meth c (MQ below (va_Qi K (sm_B sm_wM D α) A) ([.ref (α.1 1), .int p1, .int p2] : List Value).toArray s 0 0 A) D A 4 (sm_wM σ α) 97 [(3, .int x3)] [] := by
    intro σ x3 hF H locs ls hP hS hl
    unfold mp_X12_meet_97 at hF
    refine lv_iload_n hx hb dX12_meet_97 rfl (lv_at hl 0 rfl) ?_
    refine lv_if_ge (tgt := 106) hx hb dX12_meet_98 (by decide) (fun h1 => ?_) (fun h1 => ?_)
    · replace hF := hF.1 h1
      refine lv_iconst (v := 1) hx hb dX12_meet_106 (by decide) ?_
      refine lv_iload_n hx hb dX12_meet_107 rfl (lv_at hl 0 rfl) ?_
      refine lv_iadd hx hb dX12_meet_108 ?_
      exact B109 σ (1 + x3) hF H locs ls hP hS (lv_sub hl [] rfl)
    · replace hF := hF.2 h1
      refine lv_bipush (v := 98) hx hb dX12_meet_101 (by decide) ?_
      refine lv_goto (tgt := 109) hx hb dX12_meet_103 (by decide) ?_
      exact B109 σ 98 hF H locs ls hP hS (lv_sub hl [] rfl)
  have B66 : ∀ (n : Nat) (σ : sm_S) (x2 : Int32) (x3 : Int32), mp_X12_meet_66 K n σ x2 x3 → sm_J p l e (headSpec wp_X12_meet { frames := 2, cells := 0, slots := 0, locals := 44 }).room s m ([.ref (α.1 1), .int p1, .int p2] : List Value).toArray below meth c (MQ below (va_Qi K (sm_B sm_wM D α) A) ([.ref (α.1 1), .int p1, .int p2] : List Value).toArray s 0 0 A) D A 4 (sm_wM σ α) 66 [(0, .ref (α.1 1)), (2, .int x2), (3, .int x3)] [] := by
    intro n66
    induction n66 with
    | zero =>
      intro σ x2 x3 hF
      exact hF.elim
    | succ n66 ih66 =>
      intro σ x2 x3 hF H locs ls hP hS hl
      unfold mp_X12_meet_66 at hF
      refine lv_iload_n hx hb dX12_meet_66 rfl (lv_at hl 2 rfl) ?_
      refine lv_if_lt (tgt := 97) hx hb dX12_meet_67 (by decide) (fun h2 => ?_) (fun h2 => ?_)
      · replace hF := hF.1 h2
        exact B97 σ x3 hF H locs ls hP hS (lv_sub hl [2] rfl)
      · replace hF := hF.2 h2
        refine lv_aload_n hx hb dX12_meet_70 rfl (lv_at hl 0 rfl) ?_
        refine va_get (D := D) (ci := 12) (v := .ref (α.1 0)) (C := RX12) (T := TX12) (N := 42) hx hb hts in_X12 hown hK hP 1 (sm_gX12 σ α) rfl 0 (by decide) k_0 (fun _ h9 => h9) rfl dX12_meet_71 ?_
        refine lv_iload_n hx hb dX12_meet_74 rfl (lv_at hl 1 rfl) ?_
        refine lv_iconst (v := 1) hx hb dX12_meet_75 (by decide) ?_
        refine lv_isub hx hb dX12_meet_76 ?_
        refine lv_iload_n hx hb dX12_meet_77 rfl (lv_at hl 2 rfl) ?_
        refine sm_vi (As := [.int (x2 - 1), .int x3]) (rest := []) hP hK hD hE hS hA ⟨hx, hb, hml, hown, hts⟩ hl.1 (c_X11_isA l D H.size t0 σ α (x2 - 1) x3 _ hF) (cwV 2 hts wg_X12_meet_X11_isA_14 rfl rfl rfl (by decide +kernel) ⟨Nat.le_of_ble_eq_true rfl, Nat.le_of_ble_eq_true rfl⟩) (va_recv hK hP (ci := 11) (q0 := 0) rfl (sm_gX11 σ α)) rfl rfl (Nat.le_of_ble_eq_true rfl) dX12_meet_78 ⟨Nat.zero_le _, Nat.zero_le _⟩ (fun r4 σ3 H locs hF hP hS => ?_)
        refine lv_if_ne (tgt := 97) hx hb dX12_meet_81 (by decide) (fun h5 => ?_) (fun h5 => ?_)
        · replace hF := hF.1 h5
          exact B97 σ3 x3 hF H locs ls hP hS (lv_sub hl [2] rfl)
        · replace hF := hF.2 h5
          refine lv_aload_n hx hb dX12_meet_84 rfl (lv_at hl 0 rfl) ?_
          refine va_get (D := D) (ci := 12) (v := .ref (α.1 0)) (C := RX12) (T := TX12) (N := 42) hx hb hts in_X12 hown hK hP 1 (sm_gX12 σ3 α) rfl 0 (by decide) k_0 (fun _ h9 => h9) rfl dX12_meet_85 ?_
          refine va_getN (D := D) (ci := 11) (v := .ref (α.1 5)) (C := RX11) (T := TX11) (N := 28) hx hb hts in_X11 hown hK hP 0 (sm_gX11 σ3 α) rfl 9 (by decide) (va_Nw.use rfl (hE.1 (.fieldLinkNest "SteadyMachineModel" 20 "SteadyMachineModel$Image" "uppers" "[I" "SteadyMachineModel") (by decide +kernel))) (fun _ h9 => h9) rfl dX12_meet_88 ?_
          refine lv_iload_n hx hb dX12_meet_91 rfl (lv_at hl 2 rfl) ?_
          obtain ⟨h6, hF⟩ := hF
          refine va_iald (n := (σ3.2.2.1 5)) (f := (σ3.2.2.2.1 5)) hx hb hK hP 5 3 (sm_aM5 σ3 α) (sm_yM5 α) h6 dX12_meet_92 ?_
          refine lv_topi (fun v7 ev7 => ?_)
          replace hF := hF v7 ev7
          refine lv_istore_n (lv' := [(3, .int v7), (0, .ref (α.1 1)), (2, .int x2)]) hx hb dX12_meet_93 rfl hl (by decide) rfl (fun ls hl => ?_)
          refine lv_goto (tgt := 66) hx hb dX12_meet_94 (by decide) ?_
          exact ih66 σ3 x2 v7 hF H locs ls hP hS (lv_sub hl [1, 2, 0] rfl)
  have B47 : ∀ (σ : sm_S) (y0 : Int32), mp_X12_meet_47 K σ y0 → sm_J p l e (headSpec wp_X12_meet { frames := 2, cells := 0, slots := 0, locals := 44 }).room s m ([.ref (α.1 1), .int p1, .int p2] : List Value).toArray below meth c (MQ below (va_Qi K (sm_B sm_wM D α) A) ([.ref (α.1 1), .int p1, .int p2] : List Value).toArray s 0 0 A) D A 4 (sm_wM σ α) 47 [] [.int y0] := by
    intro σ y0 hF H locs ls hP hS hl
    unfold mp_X12_meet_47 at hF
    exact W.iret (v := y0) hx hb hr (fun t ht hW => ⟨⟨y0, σ, rfl, hF, (by unfold sm_B; rw [ht]; exact hP)⟩, hS.F ht⟩) hS.2.2 dX12_meet_47
  have B36 : ∀ (σ : sm_S) (x1 : Int32) (x2 : Int32), mp_X12_meet_36 K σ x1 x2 → sm_J p l e (headSpec wp_X12_meet { frames := 2, cells := 0, slots := 0, locals := 44 }).room s m ([.ref (α.1 1), .int p1, .int p2] : List Value).toArray below meth c (MQ below (va_Qi K (sm_B sm_wM D α) A) ([.ref (α.1 1), .int p1, .int p2] : List Value).toArray s 0 0 A) D A 4 (sm_wM σ α) 36 [(1, .int x1), (2, .int x2)] [] := by
    intro σ x1 x2 hF H locs ls hP hS hl
    unfold mp_X12_meet_36 at hF
    refine lv_iload_n hx hb dX12_meet_36 rfl (lv_at hl 0 rfl) ?_
    refine lv_bipush (v := 97) hx hb dX12_meet_37 (by decide) ?_
    refine lv_icmp_ne (tgt := 46) hx hb dX12_meet_39 (by decide) (fun h8 => ?_) (fun h8 => ?_)
    · replace hF := hF.1 h8
      refine lv_iload_n hx hb dX12_meet_46 rfl (lv_at hl 0 rfl) ?_
      exact B47 σ x1 hF H locs ls hP hS (lv_sub hl [] rfl)
    · replace hF := hF.2 h8
      refine lv_iload_n hx hb dX12_meet_42 rfl (lv_at hl 1 rfl) ?_
      refine lv_goto (tgt := 47) hx hb dX12_meet_43 (by decide) ?_
      exact B47 σ x2 hF H locs ls hP hS (lv_sub hl [] rfl)
  have B21 : ∀ (σ : sm_S), mp_X12_meet_21 K σ → sm_J p l e (headSpec wp_X12_meet { frames := 2, cells := 0, slots := 0, locals := 44 }).room s m ([.ref (α.1 1), .int p1, .int p2] : List Value).toArray below meth c (MQ below (va_Qi K (sm_B sm_wM D α) A) ([.ref (α.1 1), .int p1, .int p2] : List Value).toArray s 0 0 A) D A 4 (sm_wM σ α) 21 [] [] := by
    intro σ hF H locs ls hP hS hl
    unfold mp_X12_meet_21 at hF
    refine lv_bipush (v := 99) hx hb dX12_meet_21 (by decide) ?_
    exact W.iret (v := 99) hx hb hr (fun t ht hW => ⟨⟨99, σ, rfl, hF, (by unfold sm_B; rw [ht]; exact hP)⟩, hS.F ht⟩) hS.2.2 dX12_meet_23
  unfold mp_X12_meet at hF
  revert hP hS
  generalize hLo : ([] : List Loc) = locs
  suffices h9 : ∀ (H : Heap) (locs : List Loc), va_P D vwCl (sm_wM σ α) H → va_S A s.heap H locs → W p l e (headSpec wp_X12_meet { frames := 2, cells := 0, slots := 0, locals := 44 }).room s m ([.ref (α.1 1), .int p1, .int p2] : List Value).toArray below meth c H locs 0 0 (MQ below (va_Qi K (sm_B sm_wM D α) A) ([.ref (α.1 1), .int p1, .int p2] : List Value).toArray s 0 0 A) (F0 m 0 ls []) from fun hP hS => h9 s.heap locs hP hS
  intro H locs hP hS
  refine lv_iload_n hx hb dX12_meet_0 rfl (lv_at hl 1 rfl) ?_
  refine lv_iload_n hx hb dX12_meet_1 rfl (lv_at hl 2 rfl) ?_
  refine lv_icmp_ne (tgt := 7) hx hb dX12_meet_2 (by decide) (fun h9 => ?_) (fun h9 => ?_)
  · replace hF := hF.1 h9
    refine lv_iload_n hx hb dX12_meet_7 rfl (lv_at hl 1 rfl) ?_
    refine sm_si (As := [.int p1]) (rest := []) hP hK hD hE hS hA ⟨hx, hb, hml, hown, hts⟩ hl.1 (c_X12_isReference l D H.size t0 σ α p1 _ hF) (va_cwS 1 hts wg_X12_meet_X12_isReference_3 rfl rfl rfl (by decide +kernel) ⟨Nat.le_of_ble_eq_true rfl, Nat.le_of_ble_eq_true rfl⟩) rfl rfl (Nat.le_of_ble_eq_true rfl) dX12_meet_8 ⟨Nat.zero_le _, Nat.zero_le _⟩ (fun r11 σ10 H locs hF hP hS => ?_)
    refine lv_if_eq (tgt := 21) hx hb dX12_meet_11 (by decide) (fun h12 => ?_) (fun h12 => ?_)
    · replace hF := hF.1 h12
      exact B21 σ10 hF H locs ls hP hS (lv_sub hl [] rfl)
    · replace hF := hF.2 h12
      refine lv_iload_n hx hb dX12_meet_14 rfl (lv_at hl 2 rfl) ?_
      refine sm_si (As := [.int p2]) (rest := []) hP hK hD hE hS hA ⟨hx, hb, hml, hown, hts⟩ hl.1 (c_X12_isReference l D H.size t0 σ10 α p2 _ hF) (va_cwS 1 hts wg_X12_meet_X12_isReference_3 rfl rfl rfl (by decide +kernel) ⟨Nat.le_of_ble_eq_true rfl, Nat.le_of_ble_eq_true rfl⟩) rfl rfl (Nat.le_of_ble_eq_true rfl) dX12_meet_15 ⟨Nat.zero_le _, Nat.zero_le _⟩ (fun r14 σ13 H locs hF hP hS => ?_)
      refine lv_if_ne (tgt := 24) hx hb dX12_meet_18 (by decide) (fun h15 => ?_) (fun h15 => ?_)
      · replace hF := hF.1 h15
        refine lv_iload_n hx hb dX12_meet_24 rfl (lv_at hl 1 rfl) ?_
        refine lv_bipush (v := 97) hx hb dX12_meet_25 (by decide) ?_
        refine lv_icmp_eq (tgt := 36) hx hb dX12_meet_27 (by decide) (fun h16 => ?_) (fun h16 => ?_)
        · replace hF := hF.1 h16
          exact B36 σ13 p1 p2 hF H locs ls hP hS (lv_sub hl [1, 2] rfl)
        · replace hF := hF.2 h16
          refine lv_iload_n hx hb dX12_meet_30 rfl (lv_at hl 2 rfl) ?_
          refine lv_bipush (v := 97) hx hb dX12_meet_31 (by decide) ?_
          refine lv_icmp_ne (tgt := 48) hx hb dX12_meet_33 (by decide) (fun h17 => ?_) (fun h17 => ?_)
          · replace hF := hF.1 h17
            refine lv_iload_n hx hb dX12_meet_48 rfl (lv_at hl 1 rfl) ?_
            refine sm_si (As := [.int p1]) (rest := []) hP hK hD hE hS hA ⟨hx, hb, hml, hown, hts⟩ hl.1 (c_X12_isSome l D H.size t0 σ13 α p1 _ hF) (va_cwS 1 hts wg_X12_meet_X12_isSome_7 rfl rfl rfl (by decide +kernel) ⟨Nat.le_of_ble_eq_true rfl, Nat.le_of_ble_eq_true rfl⟩) rfl rfl (Nat.le_of_ble_eq_true rfl) dX12_meet_49 ⟨Nat.zero_le _, Nat.zero_le _⟩ (fun r19 σ18 H locs hF hP hS => ?_)
            refine lv_if_eq (tgt := 110) hx hb dX12_meet_52 (by decide) (fun h20 => ?_) (fun h20 => ?_)
            · replace hF := hF.1 h20
              exact B110 σ18 hF H locs ls hP hS (lv_sub hl [] rfl)
            · replace hF := hF.2 h20
              refine lv_iload_n hx hb dX12_meet_55 rfl (lv_at hl 2 rfl) ?_
              refine sm_si (As := [.int p2]) (rest := []) hP hK hD hE hS hA ⟨hx, hb, hml, hown, hts⟩ hl.1 (c_X12_isSome l D H.size t0 σ18 α p2 _ hF) (va_cwS 1 hts wg_X12_meet_X12_isSome_7 rfl rfl rfl (by decide +kernel) ⟨Nat.le_of_ble_eq_true rfl, Nat.le_of_ble_eq_true rfl⟩) rfl rfl (Nat.le_of_ble_eq_true rfl) dX12_meet_56 ⟨Nat.zero_le _, Nat.zero_le _⟩ (fun r22 σ21 H locs hF hP hS => ?_)
              refine lv_if_eq (tgt := 110) hx hb dX12_meet_59 (by decide) (fun h23 => ?_) (fun h23 => ?_)
              · replace hF := hF.1 h23
                exact B110 σ21 hF H locs ls hP hS (lv_sub hl [] rfl)
              · replace hF := hF.2 h23
                refine lv_iload_n hx hb dX12_meet_62 rfl (lv_at hl 1 rfl) ?_
                refine lv_iconst (v := 1) hx hb dX12_meet_63 (by decide) ?_
                refine lv_isub hx hb dX12_meet_64 ?_
                refine lv_topi (fun v24 ev24 => ?_)
                replace hF := hF v24 ev24
                refine lv_istore_n (lv' := [(3, .int v24), (0, .ref (α.1 1)), (1, .int p1), (2, .int p2)]) hx hb dX12_meet_65 rfl hl (by decide) rfl (fun ls hl => ?_)
                obtain ⟨n66, hF⟩ := hF
                exact B66 n66 σ21 p2 v24 hF H locs ls hP hS (lv_sub hl [1, 3, 0] rfl)
          · replace hF := hF.2 h17
            exact B36 σ13 p1 p2 hF H locs ls hP hS (lv_sub hl [1, 2] rfl)
      · replace hF := hF.2 h15
        exact B21 σ13 hF H locs ls hP hS (lv_sub hl [] rfl)
  · replace hF := hF.2 h9
    refine lv_iload_n hx hb dX12_meet_5 rfl (lv_at hl 1 rfl) ?_
    exact W.iret (v := p1) hx hb hr (fun t ht hW => ⟨⟨p1, σ, rfl, hF, (by unfold sm_B; rw [ht]; exact hP)⟩, hS.F ht⟩) hS.2.2 dX12_meet_6
theorem dX12_come_0 : decode cX12_come 0 = .ok (.iload_n 2, 1) := by decide +kernel
theorem dX12_come_1 : decode cX12_come 1 = .ok (.aload_n 0, 1) := by decide +kernel
theorem dX12_come_2 : decode cX12_come 2 = .ok (.getfield 10, 3) := by decide +kernel
theorem dX12_come_5 : decode cX12_come 5 = .ok (.getfield 24, 3) := by decide +kernel
theorem dX12_come_8 : decode cX12_come 8 = .ok (.iload_n 1, 1) := by decide +kernel
theorem dX12_come_9 : decode cX12_come 9 = .ok (.iaload, 1) := by decide +kernel
theorem dX12_come_10 : decode cX12_come 10 = .ok (.if_icmp .lt 5, 3) := by decide +kernel
theorem dX12_come_13 : decode cX12_come 13 = .ok (.iconst 0, 1) := by decide +kernel
theorem dX12_come_14 : decode cX12_come 14 = .ok (.ireturn, 1) := by decide +kernel
theorem dX12_come_15 : decode cX12_come 15 = .ok (.aload_n 0, 1) := by decide +kernel
theorem dX12_come_16 : decode cX12_come 16 = .ok (.getfield 10, 3) := by decide +kernel
theorem dX12_come_19 : decode cX12_come 19 = .ok (.getfield 27, 3) := by decide +kernel
theorem dX12_come_22 : decode cX12_come 22 = .ok (.iload_n 1, 1) := by decide +kernel
theorem dX12_come_23 : decode cX12_come 23 = .ok (.iaload, 1) := by decide +kernel
theorem dX12_come_24 : decode cX12_come 24 = .ok (.istore_n 3, 1) := by decide +kernel
theorem dX12_come_25 : decode cX12_come 25 = .ok (.aload_n 0, 1) := by decide +kernel
theorem dX12_come_26 : decode cX12_come 26 = .ok (.getfield 10, 3) := by decide +kernel
theorem dX12_come_29 : decode cX12_come 29 = .ok (.getfield 30, 3) := by decide +kernel
theorem dX12_come_32 : decode cX12_come 32 = .ok (.iload_n 1, 1) := by decide +kernel
theorem dX12_come_33 : decode cX12_come 33 = .ok (.iaload, 1) := by decide +kernel
theorem dX12_come_34 : decode cX12_come 34 = .ok (.iload_n 2, 1) := by decide +kernel
theorem dX12_come_35 : decode cX12_come 35 = .ok (.iadd, 1) := by decide +kernel
theorem dX12_come_36 : decode cX12_come 36 = .ok (.istore 4, 2) := by decide +kernel
theorem dX12_come_38 : decode cX12_come 38 = .ok (.aload_n 0, 1) := by decide +kernel
theorem dX12_come_39 : decode cX12_come 39 = .ok (.getfield 33, 3) := by decide +kernel
theorem dX12_come_42 : decode cX12_come 42 = .ok (.iload 4, 2) := by decide +kernel
theorem dX12_come_44 : decode cX12_come 44 = .ok (.iaload, 1) := by decide +kernel
theorem dX12_come_45 : decode cX12_come 45 = .ok (.ifCond .ge 65, 3) := by decide +kernel
theorem dX12_come_48 : decode cX12_come 48 = .ok (.aload_n 0, 1) := by decide +kernel
theorem dX12_come_49 : decode cX12_come 49 = .ok (.getfield 33, 3) := by decide +kernel
theorem dX12_come_52 : decode cX12_come 52 = .ok (.iload 4, 2) := by decide +kernel
theorem dX12_come_54 : decode cX12_come 54 = .ok (.aload_n 0, 1) := by decide +kernel
theorem dX12_come_55 : decode cX12_come 55 = .ok (.getfield 36, 3) := by decide +kernel
theorem dX12_come_58 : decode cX12_come 58 = .ok (.iastore, 1) := by decide +kernel
theorem dX12_come_59 : decode cX12_come 59 = .ok (.iconst 0, 1) := by decide +kernel
theorem dX12_come_60 : decode cX12_come 60 = .ok (.istore 5, 2) := by decide +kernel
theorem dX12_come_62 : decode cX12_come 62 = .ok (.iload 5, 2) := by decide +kernel
theorem dX12_come_64 : decode cX12_come 64 = .ok (.iload_n 3, 1) := by decide +kernel
theorem dX12_come_65 : decode cX12_come 65 = .ok (.aload_n 0, 1) := by decide +kernel
theorem dX12_come_66 : decode cX12_come 66 = .ok (.getfield 36, 3) := by decide +kernel
theorem dX12_come_69 : decode cX12_come 69 = .ok (.iadd, 1) := by decide +kernel
theorem dX12_come_70 : decode cX12_come 70 = .ok (.if_icmp .ge 30, 3) := by decide +kernel
theorem dX12_come_73 : decode cX12_come 73 = .ok (.aload_n 0, 1) := by decide +kernel
theorem dX12_come_74 : decode cX12_come 74 = .ok (.getfield 40, 3) := by decide +kernel
theorem dX12_come_77 : decode cX12_come 77 = .ok (.bipush 12, 2) := by decide +kernel
theorem dX12_come_79 : decode cX12_come 79 = .ok (.iload 4, 2) := by decide +kernel
theorem dX12_come_81 : decode cX12_come 81 = .ok (.imul, 1) := by decide +kernel
theorem dX12_come_82 : decode cX12_come 82 = .ok (.iload 5, 2) := by decide +kernel
theorem dX12_come_84 : decode cX12_come 84 = .ok (.iadd, 1) := by decide +kernel
theorem dX12_come_85 : decode cX12_come 85 = .ok (.aload_n 0, 1) := by decide +kernel
theorem dX12_come_86 : decode cX12_come 86 = .ok (.getfield 44, 3) := by decide +kernel
theorem dX12_come_89 : decode cX12_come 89 = .ok (.iload 5, 2) := by decide +kernel
theorem dX12_come_91 : decode cX12_come 91 = .ok (.iaload, 1) := by decide +kernel
theorem dX12_come_92 : decode cX12_come 92 = .ok (.i2b, 1) := by decide +kernel
theorem dX12_come_93 : decode cX12_come 93 = .ok (.bastore, 1) := by decide +kernel
theorem dX12_come_94 : decode cX12_come 94 = .ok (.iinc 5 1, 3) := by decide +kernel
theorem dX12_come_97 : decode cX12_come 97 = .ok (.goto (-35), 3) := by decide +kernel
theorem dX12_come_100 : decode cX12_come 100 = .ok (.aload_n 0, 1) := by decide +kernel
theorem dX12_come_101 : decode cX12_come 101 = .ok (.getfield 47, 3) := by decide +kernel
theorem dX12_come_104 : decode cX12_come 104 = .ok (.iload 4, 2) := by decide +kernel
theorem dX12_come_106 : decode cX12_come 106 = .ok (.iconst 1, 1) := by decide +kernel
theorem dX12_come_107 : decode cX12_come 107 = .ok (.bastore, 1) := by decide +kernel
theorem dX12_come_108 : decode cX12_come 108 = .ok (.iconst 1, 1) := by decide +kernel
theorem dX12_come_109 : decode cX12_come 109 = .ok (.ireturn, 1) := by decide +kernel
theorem dX12_come_110 : decode cX12_come 110 = .ok (.aload_n 0, 1) := by decide +kernel
theorem dX12_come_111 : decode cX12_come 111 = .ok (.getfield 33, 3) := by decide +kernel
theorem dX12_come_114 : decode cX12_come 114 = .ok (.iload 4, 2) := by decide +kernel
theorem dX12_come_116 : decode cX12_come 116 = .ok (.iaload, 1) := by decide +kernel
theorem dX12_come_117 : decode cX12_come 117 = .ok (.aload_n 0, 1) := by decide +kernel
theorem dX12_come_118 : decode cX12_come 118 = .ok (.getfield 36, 3) := by decide +kernel
theorem dX12_come_121 : decode cX12_come 121 = .ok (.if_icmp .eq 11, 3) := by decide +kernel
theorem dX12_come_124 : decode cX12_come 124 = .ok (.aload_n 0, 1) := by decide +kernel
theorem dX12_come_125 : decode cX12_come 125 = .ok (.iload 4, 2) := by decide +kernel
theorem dX12_come_127 : decode cX12_come 127 = .ok (.putfield 51, 3) := by decide +kernel
theorem dX12_come_130 : decode cX12_come 130 = .ok (.iconst 0, 1) := by decide +kernel
theorem dX12_come_131 : decode cX12_come 131 = .ok (.ireturn, 1) := by decide +kernel
theorem dX12_come_132 : decode cX12_come 132 = .ok (.iconst 0, 1) := by decide +kernel
theorem dX12_come_133 : decode cX12_come 133 = .ok (.istore 5, 2) := by decide +kernel
theorem dX12_come_135 : decode cX12_come 135 = .ok (.iload 5, 2) := by decide +kernel
theorem dX12_come_137 : decode cX12_come 137 = .ok (.iload_n 3, 1) := by decide +kernel
theorem dX12_come_138 : decode cX12_come 138 = .ok (.aload_n 0, 1) := by decide +kernel
theorem dX12_come_139 : decode cX12_come 139 = .ok (.getfield 36, 3) := by decide +kernel
theorem dX12_come_142 : decode cX12_come 142 = .ok (.iadd, 1) := by decide +kernel
theorem dX12_come_143 : decode cX12_come 143 = .ok (.if_icmp .ge 105, 3) := by decide +kernel
theorem dX12_come_146 : decode cX12_come 146 = .ok (.aload_n 0, 1) := by decide +kernel
theorem dX12_come_147 : decode cX12_come 147 = .ok (.getfield 40, 3) := by decide +kernel
theorem dX12_come_150 : decode cX12_come 150 = .ok (.bipush 12, 2) := by decide +kernel
theorem dX12_come_152 : decode cX12_come 152 = .ok (.iload 4, 2) := by decide +kernel
theorem dX12_come_154 : decode cX12_come 154 = .ok (.imul, 1) := by decide +kernel
theorem dX12_come_155 : decode cX12_come 155 = .ok (.iload 5, 2) := by decide +kernel
theorem dX12_come_157 : decode cX12_come 157 = .ok (.iadd, 1) := by decide +kernel
theorem dX12_come_158 : decode cX12_come 158 = .ok (.baload, 1) := by decide +kernel
theorem dX12_come_159 : decode cX12_come 159 = .ok (.istore 6, 2) := by decide +kernel
theorem dX12_come_161 : decode cX12_come 161 = .ok (.aload_n 0, 1) := by decide +kernel
theorem dX12_come_162 : decode cX12_come 162 = .ok (.iload 6, 2) := by decide +kernel
theorem dX12_come_164 : decode cX12_come 164 = .ok (.aload_n 0, 1) := by decide +kernel
theorem dX12_come_165 : decode cX12_come 165 = .ok (.getfield 44, 3) := by decide +kernel
theorem dX12_come_168 : decode cX12_come 168 = .ok (.iload 5, 2) := by decide +kernel
theorem dX12_come_170 : decode cX12_come 170 = .ok (.iaload, 1) := by decide +kernel
theorem dX12_come_171 : decode cX12_come 171 = .ok (.invokevirtual 54, 3) := by decide +kernel
theorem dX12_come_174 : decode cX12_come 174 = .ok (.istore 7, 2) := by decide +kernel
theorem dX12_come_176 : decode cX12_come 176 = .ok (.iload 5, 2) := by decide +kernel
theorem dX12_come_178 : decode cX12_come 178 = .ok (.iload_n 3, 1) := by decide +kernel
theorem dX12_come_179 : decode cX12_come 179 = .ok (.if_icmp .lt 18, 3) := by decide +kernel
theorem dX12_come_182 : decode cX12_come 182 = .ok (.iload 7, 2) := by decide +kernel
theorem dX12_come_184 : decode cX12_come 184 = .ok (.bipush 99, 2) := by decide +kernel
theorem dX12_come_186 : decode cX12_come 186 = .ok (.if_icmp .ne 11, 3) := by decide +kernel
theorem dX12_come_189 : decode cX12_come 189 = .ok (.aload_n 0, 1) := by decide +kernel
theorem dX12_come_190 : decode cX12_come 190 = .ok (.iload 4, 2) := by decide +kernel
theorem dX12_come_192 : decode cX12_come 192 = .ok (.putfield 51, 3) := by decide +kernel
theorem dX12_come_195 : decode cX12_come 195 = .ok (.iconst 0, 1) := by decide +kernel
theorem dX12_come_196 : decode cX12_come 196 = .ok (.ireturn, 1) := by decide +kernel
theorem dX12_come_197 : decode cX12_come 197 = .ok (.aload_n 0, 1) := by decide +kernel
theorem dX12_come_198 : decode cX12_come 198 = .ok (.getfield 47, 3) := by decide +kernel
theorem dX12_come_201 : decode cX12_come 201 = .ok (.iload 4, 2) := by decide +kernel
theorem dX12_come_203 : decode cX12_come 203 = .ok (.aload_n 0, 1) := by decide +kernel
theorem dX12_come_204 : decode cX12_come 204 = .ok (.getfield 47, 3) := by decide +kernel
theorem dX12_come_207 : decode cX12_come 207 = .ok (.iload 4, 2) := by decide +kernel
theorem dX12_come_209 : decode cX12_come 209 = .ok (.baload, 1) := by decide +kernel
theorem dX12_come_210 : decode cX12_come 210 = .ok (.ifCond .ne 10, 3) := by decide +kernel
theorem dX12_come_213 : decode cX12_come 213 = .ok (.iload 7, 2) := by decide +kernel
theorem dX12_come_215 : decode cX12_come 215 = .ok (.iload 6, 2) := by decide +kernel
theorem dX12_come_217 : decode cX12_come 217 = .ok (.if_icmp .eq 7, 3) := by decide +kernel
theorem dX12_come_220 : decode cX12_come 220 = .ok (.iconst 1, 1) := by decide +kernel
theorem dX12_come_221 : decode cX12_come 221 = .ok (.goto 4, 3) := by decide +kernel
theorem dX12_come_224 : decode cX12_come 224 = .ok (.iconst 0, 1) := by decide +kernel
theorem dX12_come_225 : decode cX12_come 225 = .ok (.bastore, 1) := by decide +kernel
theorem dX12_come_226 : decode cX12_come 226 = .ok (.aload_n 0, 1) := by decide +kernel
theorem dX12_come_227 : decode cX12_come 227 = .ok (.getfield 40, 3) := by decide +kernel
theorem dX12_come_230 : decode cX12_come 230 = .ok (.bipush 12, 2) := by decide +kernel
theorem dX12_come_232 : decode cX12_come 232 = .ok (.iload 4, 2) := by decide +kernel
theorem dX12_come_234 : decode cX12_come 234 = .ok (.imul, 1) := by decide +kernel
theorem dX12_come_235 : decode cX12_come 235 = .ok (.iload 5, 2) := by decide +kernel
theorem dX12_come_237 : decode cX12_come 237 = .ok (.iadd, 1) := by decide +kernel
theorem dX12_come_238 : decode cX12_come 238 = .ok (.iload 7, 2) := by decide +kernel
theorem dX12_come_240 : decode cX12_come 240 = .ok (.i2b, 1) := by decide +kernel
theorem dX12_come_241 : decode cX12_come 241 = .ok (.bastore, 1) := by decide +kernel
theorem dX12_come_242 : decode cX12_come 242 = .ok (.iinc 5 1, 3) := by decide +kernel
theorem dX12_come_245 : decode cX12_come 245 = .ok (.goto (-110), 3) := by decide +kernel
theorem dX12_come_248 : decode cX12_come 248 = .ok (.iconst 1, 1) := by decide +kernel
theorem dX12_come_249 : decode cX12_come 249 = .ok (.ireturn, 1) := by decide +kernel
def wp_X12_come : List Cond := .code yX12_come cX12_come 8 (some .boolean) :: ((([.fieldLink RX12 40 "SteadyMachineModel" "types" "[B", .fieldLink RX12 47 "SteadyMachineModel" "marks" "[Z", .fieldLink RX12 36 "SteadyMachineModel" "top" "I", .fieldLink RX12 44 "SteadyMachineModel" "now" "[I", .fieldLink RX12 51 "SteadyMachineModel" "bad" "I", .fieldLink RX12 10 "SteadyMachineModel" "image" "LSteadyMachineModel$Image;", .fieldLink RX12 33 "SteadyMachineModel" "high" "[I"] ++ (wsV RX12 54 RX12 yX12_meet wp_X12_meet)) ++ wsX110) ++ wsX120)
theorem wq_X12_come : wp_X12_come.all goodWord = true := wa_c rfl (wa_a (wa_a (wa_a (by decide +kernel) (wa_V wq_X12_meet)) uq_X11) uq_X12)
set_option maxRecDepth 200000 in
theorem wt_X12_come : GoodIn lw_tbl wp_X12_come := wm_c (List.mem_of_getElem? (i := 1283) rfl) rfl (wm_a (wm_a (wm_a (goodIn_r _ [1492, 1493, 1495, 1494, 1496, 1490, 1491] (by decide +kernel) (by decide +kernel)) (wm_a (goodIn_r _ [1284, 1286, 86, 147] (by decide +kernel) (by decide +kernel)) wt_X12_meet)) ut_X11) ut_X12)
theorem wg_X12_come_X12_meet_54 : GoodIn wp_X12_come (wsV RX12 54 RX12 yX12_meet wp_X12_meet) := goodIn_sub (fun w h => List.mem_cons_of_mem _ (List.mem_append_left _ (List.mem_append_left _ (List.mem_append_right _ h)))) (wa_V wq_X12_meet)
theorem wi_X12_come_X11 : ∀ w ∈ wsX110, w ∈ wp_X12_come := fun w h => List.mem_cons_of_mem _ (List.mem_append_left _ (List.mem_append_right _ h))
theorem wi_X12_come_X12 : ∀ w ∈ wsX120, w ∈ wp_X12_come := fun w h => List.mem_cons_of_mem _ (List.mem_append_right _ h)
set_option maxHeartbeats 4000000 in
set_option maxRecDepth 100000 in
theorem c_X12_come (l : Launch) (D : va_G) (sz t0 : Nat) (σ : sm_S) (α : sm_A) (p1 : Int32) (p2 : Int32) (K : Int32 → sm_S → Prop) (hF : mp_X12_come σ p1 p2 K) : Met l yX12_come wp_X12_come { frames := 3, cells := 0, slots := 0, locals := 67 } (sm_P sm_wM sm_tM 40 D sz t0 σ α [.ref (α.1 1), .int p1, .int p2]) (va_Qi K (sm_B sm_wM D α) (sm_a α 40 sz)) 0 0 (sm_a α 40 sz) := by
  refine Met.ofW (cc := cX12_come) (maxL := 8) (ret := (some .boolean)) (by decide) rfl ?_
  intro p e s m args below meth c s₁ B hml hv
  obtain ⟨rfl, hsz, hP, hK, hD0, hE⟩ := hv
  have hx := B.exec
  have hb := B.bytes
  have hr := B.returns
  have hts := atoms_spec (ws := wp_X12_come) B.pre
  have hown : s.vm.findClass RX12 = some m.cls := findClass_of_methodNamed B.named
  have hlocks := B.notSynchronized
  subst hsz
  have hD : sm_D (sm_a α 40 s.heap.size) α 40 := hD0.own
  have hA : ∀ q : Nat, s.heap.size ≤ q → sm_a α 40 s.heap.size q := fun q h => Or.inr h
  generalize hAe : sm_a α 40 s.heap.size = A at hD hA hE ⊢
  have hS : va_S A s.heap s.heap [] := va_S.rf
  have in_X11 : ∀ w ∈ wsX110, w ∈ wp_X12_come := wi_X12_come_X11
  have in_X12 : ∀ w ∈ wsX120, w ∈ wp_X12_come := wi_X12_come_X12
  have k_0 := hts (.fieldLink RX12 40 "SteadyMachineModel" "types" "[B") (by decide +kernel)
  have k_1 := hts (.fieldLink RX12 47 "SteadyMachineModel" "marks" "[Z") (by decide +kernel)
  have k_2 := hts (.fieldLink RX12 36 "SteadyMachineModel" "top" "I") (by decide +kernel)
  have k_3 := hts (.fieldLink RX12 44 "SteadyMachineModel" "now" "[I") (by decide +kernel)
  have k_4 := hts (.fieldLink RX12 51 "SteadyMachineModel" "bad" "I") (by decide +kernel)
  have k_5 := hts (.fieldLink RX12 10 "SteadyMachineModel" "image" "LSteadyMachineModel$Image;") (by decide +kernel)
  have k_6 := hts (.fieldLink RX12 33 "SteadyMachineModel" "high" "[I") (by decide +kernel)
  have hl := lv_entry ([.ref (α.1 1), .int p1, .int p2]) (n := 8) (Nat.le_of_ble_eq_true rfl)
  rw [lg_entry_eq]
  generalize (lg_sl ([.ref (α.1 1), .int p1, .int p2]) ++ List.replicate (8 - (lg_sl ([.ref (α.1 1), .int p1, .int p2])).length) Slot.unset).toArray = ls at hl ⊢
  have hl : lv_has ls 8 [(0, .ref (α.1 1)), (1, .int p1), (2, .int p2)] := hl
  have B225 : ∀ (L135 : sm_S → Int32 → Int32 → Int32 → Prop) (hL135 : ∀ (σ : sm_S) (x3 : Int32) (x4 : Int32) (x5 : Int32), L135 σ x3 x4 x5 → sm_J p l e (headSpec wp_X12_come { frames := 3, cells := 0, slots := 0, locals := 67 }).room s m ([.ref (α.1 1), .int p1, .int p2] : List Value).toArray below meth c (MQ below (va_Qi K (sm_B sm_wM D α) A) ([.ref (α.1 1), .int p1, .int p2] : List Value).toArray s 0 0 A) D A 8 (sm_wM σ α) 135 [(0, .ref (α.1 1)), (3, .int x3), (4, .int x4), (5, .int x5)] []) (σ : sm_S) (x3 : Int32) (x4 : Int32) (x5 : Int32) (x7 : Int32) (y1 : Int32) (y2 : Int32), mp_X12_come_225 L135 K σ x3 x4 x5 x7 y1 y2 → sm_J p l e (headSpec wp_X12_come { frames := 3, cells := 0, slots := 0, locals := 67 }).room s m ([.ref (α.1 1), .int p1, .int p2] : List Value).toArray below meth c (MQ below (va_Qi K (sm_B sm_wM D α) A) ([.ref (α.1 1), .int p1, .int p2] : List Value).toArray s 0 0 A) D A 8 (sm_wM σ α) 225 [(0, .ref (α.1 1)), (3, .int x3), (4, .int x4), (5, .int x5), (7, .int x7)] [.int y2, .int y1, .ref (α.1 23)] := by
    intro L135 hL135 σ x3 x4 x5 x7 y1 y2 hF H locs ls hP hS hl
    unfold mp_X12_come_225 at hF
    obtain ⟨h1, hF⟩ := hF
    refine va_zast (n := (σ.2.2.1 23)) (f := (σ.2.2.2.1 23)) (x := y2) hx hb hK hP (hD.to (sm_wM_m _ _)) hS 23 21 (sm_aM23 σ α) (sm_yM23 α) h1 dX12_come_225 (fun H locs hP _ hS => ?_)
    rw [sm_rM23] at hP
    obtain ⟨σ2, eσ2⟩ : ∃ x : sm_S, x = sm_r σ 23 (upd (σ.2.2.2.1 23) y1.toNatClampNeg (vp_nar .boolean y2)) := ⟨_, rfl⟩
    replace hF := hF σ2 eσ2
    rw [← eσ2] at hP
    refine lv_aload_n hx hb dX12_come_226 rfl (lv_at hl 0 rfl) ?_
    refine va_get (D := D) (ci := 12) (v := .ref (α.1 22)) (C := RX12) (T := TX12) (N := 42) hx hb hts in_X12 hown hK hP 1 (sm_gX12 σ2 α) rfl 2 (by decide) k_0 (fun _ h9 => h9) rfl dX12_come_227 ?_
    refine lv_bipush (v := 12) hx hb dX12_come_230 (by decide) ?_
    refine lv_iload hx hb dX12_come_232 (lv_at hl 2 rfl) ?_
    refine lv_imul hx hb dX12_come_234 ?_
    refine lv_iload hx hb dX12_come_235 (lv_at hl 3 rfl) ?_
    refine lv_iadd hx hb dX12_come_237 ?_
    refine lv_iload hx hb dX12_come_238 (lv_at hl 4 rfl) ?_
    refine lv_i2b hx hb dX12_come_240 rfl ?_
    obtain ⟨h3, hF⟩ := hF
    refine va_bast (n := (σ2.2.2.1 22)) (f := (σ2.2.2.2.1 22)) (x := x7.toInt8.toInt32) hx hb hK hP (hD.to (sm_wM_m _ _)) hS 22 20 (sm_aM22 σ2 α) (sm_yM22 α) h3 dX12_come_241 (fun H locs hP _ hS => ?_)
    rw [sm_rM22] at hP
    obtain ⟨σ4, eσ4⟩ : ∃ x : sm_S, x = sm_r σ2 22 (upd (σ2.2.2.2.1 22) ((12 * x4) + x5).toNatClampNeg (vp_nar .byte x7.toInt8.toInt32)) := ⟨_, rfl⟩
    replace hF := hF σ4 eσ4
    rw [← eσ4] at hP
    obtain ⟨v5, ev5⟩ : ∃ y : Int32, y = x5 + 1 := ⟨_, rfl⟩
    replace hF := hF v5 ev5
    refine lv_iinc (v := v5) (lv' := [(5, .int v5), (0, .ref (α.1 1)), (3, .int x3), (4, .int x4), (7, .int x7)]) hx hb dX12_come_242 hl (k := 3) rfl (by rw [ev5]; rfl) (by decide) rfl (fun ls hl => ?_)
    refine lv_goto (tgt := 135) hx hb dX12_come_245 (by decide) ?_
    exact hL135 σ4 x3 x4 v5 hF H locs ls hP hS (lv_sub hl [1, 2, 3, 0] rfl)
  have B220 : ∀ (L135 : sm_S → Int32 → Int32 → Int32 → Prop) (hL135 : ∀ (σ : sm_S) (x3 : Int32) (x4 : Int32) (x5 : Int32), L135 σ x3 x4 x5 → sm_J p l e (headSpec wp_X12_come { frames := 3, cells := 0, slots := 0, locals := 67 }).room s m ([.ref (α.1 1), .int p1, .int p2] : List Value).toArray below meth c (MQ below (va_Qi K (sm_B sm_wM D α) A) ([.ref (α.1 1), .int p1, .int p2] : List Value).toArray s 0 0 A) D A 8 (sm_wM σ α) 135 [(0, .ref (α.1 1)), (3, .int x3), (4, .int x4), (5, .int x5)] []) (σ : sm_S) (x3 : Int32) (x4 : Int32) (x5 : Int32) (x7 : Int32) (y1 : Int32), mp_X12_come_220 L135 K σ x3 x4 x5 x7 y1 → sm_J p l e (headSpec wp_X12_come { frames := 3, cells := 0, slots := 0, locals := 67 }).room s m ([.ref (α.1 1), .int p1, .int p2] : List Value).toArray below meth c (MQ below (va_Qi K (sm_B sm_wM D α) A) ([.ref (α.1 1), .int p1, .int p2] : List Value).toArray s 0 0 A) D A 8 (sm_wM σ α) 220 [(0, .ref (α.1 1)), (3, .int x3), (4, .int x4), (5, .int x5), (7, .int x7)] [.int y1, .ref (α.1 23)] := by
    intro L135 hL135 σ x3 x4 x5 x7 y1 hF H locs ls hP hS hl
    unfold mp_X12_come_220 at hF
    refine lv_iconst (v := 1) hx hb dX12_come_220 (by decide) ?_
    refine lv_goto (tgt := 225) hx hb dX12_come_221 (by decide) ?_
    exact B225 L135 hL135 σ x3 x4 x5 x7 y1 1 hF H locs ls hP hS (lv_sub hl [0, 1, 2, 3, 4] rfl)
  have B197 : ∀ (L135 : sm_S → Int32 → Int32 → Int32 → Prop) (hL135 : ∀ (σ : sm_S) (x3 : Int32) (x4 : Int32) (x5 : Int32), L135 σ x3 x4 x5 → sm_J p l e (headSpec wp_X12_come { frames := 3, cells := 0, slots := 0, locals := 67 }).room s m ([.ref (α.1 1), .int p1, .int p2] : List Value).toArray below meth c (MQ below (va_Qi K (sm_B sm_wM D α) A) ([.ref (α.1 1), .int p1, .int p2] : List Value).toArray s 0 0 A) D A 8 (sm_wM σ α) 135 [(0, .ref (α.1 1)), (3, .int x3), (4, .int x4), (5, .int x5)] []) (σ : sm_S) (x3 : Int32) (x4 : Int32) (x5 : Int32) (x6 : Int32) (x7 : Int32), mp_X12_come_197 L135 K σ x3 x4 x5 x6 x7 → sm_J p l e (headSpec wp_X12_come { frames := 3, cells := 0, slots := 0, locals := 67 }).room s m ([.ref (α.1 1), .int p1, .int p2] : List Value).toArray below meth c (MQ below (va_Qi K (sm_B sm_wM D α) A) ([.ref (α.1 1), .int p1, .int p2] : List Value).toArray s 0 0 A) D A 8 (sm_wM σ α) 197 [(0, .ref (α.1 1)), (3, .int x3), (4, .int x4), (5, .int x5), (6, .int x6), (7, .int x7)] [] := by
    intro L135 hL135 σ x3 x4 x5 x6 x7 hF H locs ls hP hS hl
    unfold mp_X12_come_197 at hF
    refine lv_aload_n hx hb dX12_come_197 rfl (lv_at hl 0 rfl) ?_
    refine va_get (D := D) (ci := 12) (v := .ref (α.1 23)) (C := RX12) (T := TX12) (N := 42) hx hb hts in_X12 hown hK hP 1 (sm_gX12 σ α) rfl 3 (by decide) k_1 (fun _ h9 => h9) rfl dX12_come_198 ?_
    refine lv_iload hx hb dX12_come_201 (lv_at hl 2 rfl) ?_
    refine lv_aload_n hx hb dX12_come_203 rfl (lv_at hl 0 rfl) ?_
    refine va_get (D := D) (ci := 12) (v := .ref (α.1 23)) (C := RX12) (T := TX12) (N := 42) hx hb hts in_X12 hown hK hP 1 (sm_gX12 σ α) rfl 3 (by decide) k_1 (fun _ h9 => h9) rfl dX12_come_204 ?_
    refine lv_iload hx hb dX12_come_207 (lv_at hl 2 rfl) ?_
    obtain ⟨h6, hF⟩ := hF
    refine va_zald (n := (σ.2.2.1 23)) (f := (σ.2.2.2.1 23)) hx hb hK hP 23 21 (sm_aM23 σ α) (sm_yM23 α) h6 dX12_come_209 ?_
    refine lv_if_ne (tgt := 220) hx hb dX12_come_210 (by decide) (fun h7 => ?_) (fun h7 => ?_)
    · replace hF := hF.1 h7
      exact B220 L135 hL135 σ x3 x4 x5 x7 x4 hF H locs ls hP hS (lv_sub hl [0, 1, 2, 3, 5] rfl)
    · replace hF := hF.2 h7
      refine lv_iload hx hb dX12_come_213 (lv_at hl 5 rfl) ?_
      refine lv_iload hx hb dX12_come_215 (lv_at hl 4 rfl) ?_
      refine lv_icmp_eq (tgt := 224) hx hb dX12_come_217 (by decide) (fun h8 => ?_) (fun h8 => ?_)
      · replace hF := hF.1 h8
        refine lv_iconst (v := 0) hx hb dX12_come_224 (by decide) ?_
        exact B225 L135 hL135 σ x3 x4 x5 x7 x4 0 hF H locs ls hP hS (lv_sub hl [0, 1, 2, 3, 5] rfl)
      · replace hF := hF.2 h8
        exact B220 L135 hL135 σ x3 x4 x5 x7 x4 hF H locs ls hP hS (lv_sub hl [0, 1, 2, 3, 5] rfl)
  have B135 : ∀ (n : Nat) (σ : sm_S) (x3 : Int32) (x4 : Int32) (x5 : Int32), mp_X12_come_135 K n σ x3 x4 x5 → sm_J p l e (headSpec wp_X12_come { frames := 3, cells := 0, slots := 0, locals := 67 }).room s m ([.ref (α.1 1), .int p1, .int p2] : List Value).toArray below meth c (MQ below (va_Qi K (sm_B sm_wM D α) A) ([.ref (α.1 1), .int p1, .int p2] : List Value).toArray s 0 0 A) D A 8 (sm_wM σ α) 135 [(0, .ref (α.1 1)), (3, .int x3), (4, .int x4), (5, .int x5)] [] := by
    intro n135
    induction n135 with
    | zero =>
      intro σ x3 x4 x5 hF
      exact hF.elim
    | succ n135 ih135 =>
      intro σ x3 x4 x5 hF H locs ls hP hS hl
      unfold mp_X12_come_135 at hF
      refine lv_iload hx hb dX12_come_135 (lv_at hl 3 rfl) ?_
      refine lv_iload_n hx hb dX12_come_137 rfl (lv_at hl 1 rfl) ?_
      refine lv_aload_n hx hb dX12_come_138 rfl (lv_at hl 0 rfl) ?_
      refine va_get (D := D) (ci := 12) (v := .int (σ.1 9)) (C := RX12) (T := TX12) (N := 42) hx hb hts in_X12 hown hK hP 1 (sm_gX12 σ α) rfl 5 (by decide) k_2 (fun _ h9 => h9) rfl dX12_come_139 ?_
      refine lv_iadd hx hb dX12_come_142 ?_
      refine lv_icmp_ge (tgt := 248) hx hb dX12_come_143 (by decide) (fun h9 => ?_) (fun h9 => ?_)
      · replace hF := hF.1 h9
        refine lv_iconst (v := 1) hx hb dX12_come_248 (by decide) ?_
        exact W.zret (v := 1) hx hb hr sm_z1.1 (fun t ht hW => ⟨⟨1, σ, rfl, hF, (by unfold sm_B; rw [ht]; exact hP)⟩, hS.F ht⟩) hS.2.2 dX12_come_249
      · replace hF := hF.2 h9
        refine lv_aload_n hx hb dX12_come_146 rfl (lv_at hl 0 rfl) ?_
        refine va_get (D := D) (ci := 12) (v := .ref (α.1 22)) (C := RX12) (T := TX12) (N := 42) hx hb hts in_X12 hown hK hP 1 (sm_gX12 σ α) rfl 2 (by decide) k_0 (fun _ h9 => h9) rfl dX12_come_147 ?_
        refine lv_bipush (v := 12) hx hb dX12_come_150 (by decide) ?_
        refine lv_iload hx hb dX12_come_152 (lv_at hl 2 rfl) ?_
        refine lv_imul hx hb dX12_come_154 ?_
        refine lv_iload hx hb dX12_come_155 (lv_at hl 3 rfl) ?_
        refine lv_iadd hx hb dX12_come_157 ?_
        obtain ⟨h10, hF⟩ := hF
        refine va_bald (n := (σ.2.2.1 22)) (f := (σ.2.2.2.1 22)) hx hb hK hP 22 20 (sm_aM22 σ α) (sm_yM22 α) h10 dX12_come_158 ?_
        refine lv_topi (fun v11 ev11 => ?_)
        replace hF := hF v11 ev11
        refine lv_istore (lv' := [(6, .int v11), (0, .ref (α.1 1)), (3, .int x3), (4, .int x4), (5, .int x5)]) hx hb dX12_come_159 hl (by decide) rfl (fun ls hl => ?_)
        refine lv_aload_n hx hb dX12_come_161 rfl (lv_at hl 1 rfl) ?_
        refine lv_iload hx hb dX12_come_162 (lv_at hl 0 rfl) ?_
        refine lv_aload_n hx hb dX12_come_164 rfl (lv_at hl 1 rfl) ?_
        refine va_get (D := D) (ci := 12) (v := .ref (α.1 24)) (C := RX12) (T := TX12) (N := 42) hx hb hts in_X12 hown hK hP 1 (sm_gX12 σ α) rfl 4 (by decide) k_3 (fun _ h9 => h9) rfl dX12_come_165 ?_
        refine lv_iload hx hb dX12_come_168 (lv_at hl 4 rfl) ?_
        obtain ⟨h12, hF⟩ := hF
        refine va_iald (n := (σ.2.2.1 24)) (f := (σ.2.2.2.1 24)) hx hb hK hP 24 22 (sm_aM24 σ α) (sm_yM24 α) h12 dX12_come_170 ?_
        refine sm_vi (As := [.int v11, .int ((σ.2.2.2.1 24) x5.toNatClampNeg)]) (rest := []) hP hK hD hE hS hA ⟨hx, hb, hml, hown, hts⟩ hl.1 (c_X12_meet l D H.size t0 σ α v11 ((σ.2.2.2.1 24) x5.toNatClampNeg) _ hF) (cwV 2 hts wg_X12_come_X12_meet_54 rfl rfl rfl (by decide +kernel) ⟨Nat.le_of_ble_eq_true rfl, Nat.le_of_ble_eq_true rfl⟩) (va_recv hK hP (ci := 12) (q0 := 1) rfl (sm_gX12 σ α)) rfl rfl (Nat.le_of_ble_eq_true rfl) dX12_come_171 ⟨Nat.zero_le _, Nat.zero_le _⟩ (fun r14 σ13 H locs hF hP hS => ?_)
        refine lv_istore (lv' := [(7, .int r14), (6, .int v11), (0, .ref (α.1 1)), (3, .int x3), (4, .int x4), (5, .int x5)]) hx hb dX12_come_174 hl (by decide) rfl (fun ls hl => ?_)
        refine lv_iload hx hb dX12_come_176 (lv_at hl 5 rfl) ?_
        refine lv_iload_n hx hb dX12_come_178 rfl (lv_at hl 3 rfl) ?_
        refine lv_icmp_lt (tgt := 197) hx hb dX12_come_179 (by decide) (fun h15 => ?_) (fun h15 => ?_)
        · replace hF := hF.1 h15
          exact B197 (mp_X12_come_135 K n135) ih135 σ13 x3 x4 x5 v11 r14 hF H locs ls hP hS (lv_sub hl [2, 3, 4, 5, 1, 0] rfl)
        · replace hF := hF.2 h15
          refine lv_iload hx hb dX12_come_182 (lv_at hl 0 rfl) ?_
          refine lv_bipush (v := 99) hx hb dX12_come_184 (by decide) ?_
          refine lv_icmp_ne (tgt := 197) hx hb dX12_come_186 (by decide) (fun h16 => ?_) (fun h16 => ?_)
          · replace hF := hF.1 h16
            exact B197 (mp_X12_come_135 K n135) ih135 σ13 x3 x4 x5 v11 r14 hF H locs ls hP hS (lv_sub hl [2, 3, 4, 5, 1, 0] rfl)
          · replace hF := hF.2 h16
            refine lv_aload_n hx hb dX12_come_189 rfl (lv_at hl 2 rfl) ?_
            refine lv_iload hx hb dX12_come_190 (lv_at hl 4 rfl) ?_
            refine va_put (D := D) (ci := 12) (v := .int x4) (ty := .int) (C := RX12) (T := TX12) (N := 42) hx hb hts in_X12 tyX12 tyX12_ok nmX12 hown hK hP (hD.to (sm_wM_m _ _)) hS 1 (sm_gX12 σ13 α) rfl 6 (by decide) k_4 (fun _ h9 => h9) rfl (by decide +kernel) rfl rfl (Nat.le_of_ble_eq_true rfl) dX12_come_192 (fun H locs hP _ hS => ?_)
            rw [sm_iM10] at hP
            obtain ⟨σ17, eσ17⟩ : ∃ x : sm_S, x = sm_i σ13 10 x4 := ⟨_, rfl⟩
            replace hF := hF σ17 eσ17
            rw [← eσ17] at hP
            refine lv_iconst (v := 0) hx hb dX12_come_195 (by decide) ?_
            exact W.zret (v := 0) hx hb hr sm_z0.1 (fun t ht hW => ⟨⟨0, σ17, rfl, hF, (by unfold sm_B; rw [ht]; exact hP)⟩, hS.F ht⟩) hS.2.2 dX12_come_196
  have B62 : ∀ (n : Nat) (σ : sm_S) (x3 : Int32) (x4 : Int32) (x5 : Int32), mp_X12_come_62 K n σ x3 x4 x5 → sm_J p l e (headSpec wp_X12_come { frames := 3, cells := 0, slots := 0, locals := 67 }).room s m ([.ref (α.1 1), .int p1, .int p2] : List Value).toArray below meth c (MQ below (va_Qi K (sm_B sm_wM D α) A) ([.ref (α.1 1), .int p1, .int p2] : List Value).toArray s 0 0 A) D A 8 (sm_wM σ α) 62 [(0, .ref (α.1 1)), (3, .int x3), (4, .int x4), (5, .int x5)] [] := by
    intro n62
    induction n62 with
    | zero =>
      intro σ x3 x4 x5 hF
      exact hF.elim
    | succ n62 ih62 =>
      intro σ x3 x4 x5 hF H locs ls hP hS hl
      unfold mp_X12_come_62 at hF
      refine lv_iload hx hb dX12_come_62 (lv_at hl 3 rfl) ?_
      refine lv_iload_n hx hb dX12_come_64 rfl (lv_at hl 1 rfl) ?_
      refine lv_aload_n hx hb dX12_come_65 rfl (lv_at hl 0 rfl) ?_
      refine va_get (D := D) (ci := 12) (v := .int (σ.1 9)) (C := RX12) (T := TX12) (N := 42) hx hb hts in_X12 hown hK hP 1 (sm_gX12 σ α) rfl 5 (by decide) k_2 (fun _ h9 => h9) rfl dX12_come_66 ?_
      refine lv_iadd hx hb dX12_come_69 ?_
      refine lv_icmp_ge (tgt := 100) hx hb dX12_come_70 (by decide) (fun h18 => ?_) (fun h18 => ?_)
      · replace hF := hF.1 h18
        refine lv_aload_n hx hb dX12_come_100 rfl (lv_at hl 0 rfl) ?_
        refine va_get (D := D) (ci := 12) (v := .ref (α.1 23)) (C := RX12) (T := TX12) (N := 42) hx hb hts in_X12 hown hK hP 1 (sm_gX12 σ α) rfl 3 (by decide) k_1 (fun _ h9 => h9) rfl dX12_come_101 ?_
        refine lv_iload hx hb dX12_come_104 (lv_at hl 2 rfl) ?_
        refine lv_iconst (v := 1) hx hb dX12_come_106 (by decide) ?_
        obtain ⟨h19, hF⟩ := hF
        refine va_zast (n := (σ.2.2.1 23)) (f := (σ.2.2.2.1 23)) (x := 1) hx hb hK hP (hD.to (sm_wM_m _ _)) hS 23 21 (sm_aM23 σ α) (sm_yM23 α) h19 dX12_come_107 (fun H locs hP _ hS => ?_)
        rw [sm_rM23] at hP
        obtain ⟨σ20, eσ20⟩ : ∃ x : sm_S, x = sm_r σ 23 (upd (σ.2.2.2.1 23) x4.toNatClampNeg (vp_nar .boolean 1)) := ⟨_, rfl⟩
        replace hF := hF σ20 eσ20
        rw [← eσ20] at hP
        refine lv_iconst (v := 1) hx hb dX12_come_108 (by decide) ?_
        exact W.zret (v := 1) hx hb hr sm_z1.1 (fun t ht hW => ⟨⟨1, σ20, rfl, hF, (by unfold sm_B; rw [ht]; exact hP)⟩, hS.F ht⟩) hS.2.2 dX12_come_109
      · replace hF := hF.2 h18
        refine lv_aload_n hx hb dX12_come_73 rfl (lv_at hl 0 rfl) ?_
        refine va_get (D := D) (ci := 12) (v := .ref (α.1 22)) (C := RX12) (T := TX12) (N := 42) hx hb hts in_X12 hown hK hP 1 (sm_gX12 σ α) rfl 2 (by decide) k_0 (fun _ h9 => h9) rfl dX12_come_74 ?_
        refine lv_bipush (v := 12) hx hb dX12_come_77 (by decide) ?_
        refine lv_iload hx hb dX12_come_79 (lv_at hl 2 rfl) ?_
        refine lv_imul hx hb dX12_come_81 ?_
        refine lv_iload hx hb dX12_come_82 (lv_at hl 3 rfl) ?_
        refine lv_iadd hx hb dX12_come_84 ?_
        refine lv_aload_n hx hb dX12_come_85 rfl (lv_at hl 0 rfl) ?_
        refine va_get (D := D) (ci := 12) (v := .ref (α.1 24)) (C := RX12) (T := TX12) (N := 42) hx hb hts in_X12 hown hK hP 1 (sm_gX12 σ α) rfl 4 (by decide) k_3 (fun _ h9 => h9) rfl dX12_come_86 ?_
        refine lv_iload hx hb dX12_come_89 (lv_at hl 3 rfl) ?_
        obtain ⟨h21, hF⟩ := hF
        refine va_iald (n := (σ.2.2.1 24)) (f := (σ.2.2.2.1 24)) hx hb hK hP 24 22 (sm_aM24 σ α) (sm_yM24 α) h21 dX12_come_91 ?_
        refine lv_i2b hx hb dX12_come_92 rfl ?_
        obtain ⟨h22, hF⟩ := hF
        refine va_bast (n := (σ.2.2.1 22)) (f := (σ.2.2.2.1 22)) (x := ((σ.2.2.2.1 24) x5.toNatClampNeg).toInt8.toInt32) hx hb hK hP (hD.to (sm_wM_m _ _)) hS 22 20 (sm_aM22 σ α) (sm_yM22 α) h22 dX12_come_93 (fun H locs hP _ hS => ?_)
        rw [sm_rM22] at hP
        obtain ⟨σ23, eσ23⟩ : ∃ x : sm_S, x = sm_r σ 22 (upd (σ.2.2.2.1 22) ((12 * x4) + x5).toNatClampNeg (vp_nar .byte (((σ.2.2.2.1 24) x5.toNatClampNeg).toInt8.toInt32))) := ⟨_, rfl⟩
        replace hF := hF σ23 eσ23
        rw [← eσ23] at hP
        obtain ⟨v24, ev24⟩ : ∃ y : Int32, y = x5 + 1 := ⟨_, rfl⟩
        replace hF := hF v24 ev24
        refine lv_iinc (v := v24) (lv' := [(5, .int v24), (0, .ref (α.1 1)), (3, .int x3), (4, .int x4)]) hx hb dX12_come_94 hl (k := 3) rfl (by rw [ev24]; rfl) (by decide) rfl (fun ls hl => ?_)
        refine lv_goto (tgt := 62) hx hb dX12_come_97 (by decide) ?_
        exact ih62 σ23 x3 x4 v24 hF H locs ls hP hS (lv_sub hl [1, 2, 3, 0] rfl)
  unfold mp_X12_come at hF
  revert hP hS
  generalize hLo : ([] : List Loc) = locs
  suffices h9 : ∀ (H : Heap) (locs : List Loc), va_P D vwCl (sm_wM σ α) H → va_S A s.heap H locs → W p l e (headSpec wp_X12_come { frames := 3, cells := 0, slots := 0, locals := 67 }).room s m ([.ref (α.1 1), .int p1, .int p2] : List Value).toArray below meth c H locs 0 0 (MQ below (va_Qi K (sm_B sm_wM D α) A) ([.ref (α.1 1), .int p1, .int p2] : List Value).toArray s 0 0 A) (F0 m 0 ls []) from fun hP hS => h9 s.heap locs hP hS
  intro H locs hP hS
  refine lv_iload_n hx hb dX12_come_0 rfl (lv_at hl 2 rfl) ?_
  refine lv_aload_n hx hb dX12_come_1 rfl (lv_at hl 0 rfl) ?_
  refine va_get (D := D) (ci := 12) (v := .ref (α.1 0)) (C := RX12) (T := TX12) (N := 42) hx hb hts in_X12 hown hK hP 1 (sm_gX12 σ α) rfl 0 (by decide) k_5 (fun _ h9 => h9) rfl dX12_come_2 ?_
  refine va_getN (D := D) (ci := 11) (v := .ref (α.1 18)) (C := RX11) (T := TX11) (N := 28) hx hb hts in_X11 hown hK hP 0 (sm_gX11 σ α) rfl 23 (by decide) (va_Nw.use rfl (hE.1 (.fieldLinkNest "SteadyMachineModel" 24 "SteadyMachineModel$Image" "codeSizes" "[I" "SteadyMachineModel") (by decide +kernel))) (fun _ h9 => h9) rfl dX12_come_5 ?_
  refine lv_iload_n hx hb dX12_come_8 rfl (lv_at hl 1 rfl) ?_
  obtain ⟨h25, hF⟩ := hF
  refine va_iald (n := (σ.2.2.1 18)) (f := (σ.2.2.2.1 18)) hx hb hK hP 18 16 (sm_aM18 σ α) (sm_yM18 α) h25 dX12_come_9 ?_
  refine lv_icmp_lt (tgt := 15) hx hb dX12_come_10 (by decide) (fun h26 => ?_) (fun h26 => ?_)
  · replace hF := hF.1 h26
    refine lv_aload_n hx hb dX12_come_15 rfl (lv_at hl 0 rfl) ?_
    refine va_get (D := D) (ci := 12) (v := .ref (α.1 0)) (C := RX12) (T := TX12) (N := 42) hx hb hts in_X12 hown hK hP 1 (sm_gX12 σ α) rfl 0 (by decide) k_5 (fun _ h9 => h9) rfl dX12_come_16 ?_
    refine va_getN (D := D) (ci := 11) (v := .ref (α.1 15)) (C := RX11) (T := TX11) (N := 28) hx hb hts in_X11 hown hK hP 0 (sm_gX11 σ α) rfl 20 (by decide) (va_Nw.use rfl (hE.1 (.fieldLinkNest "SteadyMachineModel" 27 "SteadyMachineModel$Image" "locals" "[I" "SteadyMachineModel") (by decide +kernel))) (fun _ h9 => h9) rfl dX12_come_19 ?_
    refine lv_iload_n hx hb dX12_come_22 rfl (lv_at hl 1 rfl) ?_
    obtain ⟨h27, hF⟩ := hF
    refine va_iald (n := (σ.2.2.1 15)) (f := (σ.2.2.2.1 15)) hx hb hK hP 15 13 (sm_aM15 σ α) (sm_yM15 α) h27 dX12_come_23 ?_
    refine lv_topi (fun v28 ev28 => ?_)
    replace hF := hF v28 ev28
    refine lv_istore_n (lv' := [(3, .int v28), (0, .ref (α.1 1)), (1, .int p1), (2, .int p2)]) hx hb dX12_come_24 rfl hl (by decide) rfl (fun ls hl => ?_)
    refine lv_aload_n hx hb dX12_come_25 rfl (lv_at hl 1 rfl) ?_
    refine va_get (D := D) (ci := 12) (v := .ref (α.1 0)) (C := RX12) (T := TX12) (N := 42) hx hb hts in_X12 hown hK hP 1 (sm_gX12 σ α) rfl 0 (by decide) k_5 (fun _ h9 => h9) rfl dX12_come_26 ?_
    refine va_getN (D := D) (ci := 11) (v := .ref (α.1 17)) (C := RX11) (T := TX11) (N := 28) hx hb hts in_X11 hown hK hP 0 (sm_gX11 σ α) rfl 22 (by decide) (va_Nw.use rfl (hE.1 (.fieldLinkNest "SteadyMachineModel" 30 "SteadyMachineModel$Image" "codeAt" "[I" "SteadyMachineModel") (by decide +kernel))) (fun _ h9 => h9) rfl dX12_come_29 ?_
    refine lv_iload_n hx hb dX12_come_32 rfl (lv_at hl 2 rfl) ?_
    obtain ⟨h29, hF⟩ := hF
    refine va_iald (n := (σ.2.2.1 17)) (f := (σ.2.2.2.1 17)) hx hb hK hP 17 15 (sm_aM17 σ α) (sm_yM17 α) h29 dX12_come_33 ?_
    refine lv_iload_n hx hb dX12_come_34 rfl (lv_at hl 3 rfl) ?_
    refine lv_iadd hx hb dX12_come_35 ?_
    refine lv_topi (fun v30 ev30 => ?_)
    replace hF := hF v30 ev30
    refine lv_istore (lv' := [(4, .int v30), (3, .int v28), (0, .ref (α.1 1)), (1, .int p1), (2, .int p2)]) hx hb dX12_come_36 hl (by decide) rfl (fun ls hl => ?_)
    refine lv_aload_n hx hb dX12_come_38 rfl (lv_at hl 2 rfl) ?_
    refine va_get (D := D) (ci := 12) (v := .ref (α.1 21)) (C := RX12) (T := TX12) (N := 42) hx hb hts in_X12 hown hK hP 1 (sm_gX12 σ α) rfl 1 (by decide) k_6 (fun _ h9 => h9) rfl dX12_come_39 ?_
    refine lv_iload hx hb dX12_come_42 (lv_at hl 0 rfl) ?_
    obtain ⟨h31, hF⟩ := hF
    refine va_iald (n := (σ.2.2.1 21)) (f := (σ.2.2.2.1 21)) hx hb hK hP 21 19 (sm_aM21 σ α) (sm_yM21 α) h31 dX12_come_44 ?_
    refine lv_if_ge (tgt := 110) hx hb dX12_come_45 (by decide) (fun h32 => ?_) (fun h32 => ?_)
    · replace hF := hF.1 h32
      refine lv_aload_n hx hb dX12_come_110 rfl (lv_at hl 2 rfl) ?_
      refine va_get (D := D) (ci := 12) (v := .ref (α.1 21)) (C := RX12) (T := TX12) (N := 42) hx hb hts in_X12 hown hK hP 1 (sm_gX12 σ α) rfl 1 (by decide) k_6 (fun _ h9 => h9) rfl dX12_come_111 ?_
      refine lv_iload hx hb dX12_come_114 (lv_at hl 0 rfl) ?_
      obtain ⟨h33, hF⟩ := hF
      refine va_iald (n := (σ.2.2.1 21)) (f := (σ.2.2.2.1 21)) hx hb hK hP 21 19 (sm_aM21 σ α) (sm_yM21 α) h33 dX12_come_116 ?_
      refine lv_aload_n hx hb dX12_come_117 rfl (lv_at hl 2 rfl) ?_
      refine va_get (D := D) (ci := 12) (v := .int (σ.1 9)) (C := RX12) (T := TX12) (N := 42) hx hb hts in_X12 hown hK hP 1 (sm_gX12 σ α) rfl 5 (by decide) k_2 (fun _ h9 => h9) rfl dX12_come_118 ?_
      refine lv_icmp_eq (tgt := 132) hx hb dX12_come_121 (by decide) (fun h34 => ?_) (fun h34 => ?_)
      · replace hF := hF.1 h34
        refine lv_iconst (v := 0) hx hb dX12_come_132 (by decide) ?_
        refine lv_istore (lv' := [(5, .int 0), (4, .int v30), (3, .int v28), (0, .ref (α.1 1)), (1, .int p1), (2, .int p2)]) hx hb dX12_come_133 hl (by decide) rfl (fun ls hl => ?_)
        obtain ⟨n135, hF⟩ := hF
        exact B135 n135 σ v28 v30 0 hF H locs ls hP hS (lv_sub hl [3, 2, 1, 0] rfl)
      · replace hF := hF.2 h34
        refine lv_aload_n hx hb dX12_come_124 rfl (lv_at hl 2 rfl) ?_
        refine lv_iload hx hb dX12_come_125 (lv_at hl 0 rfl) ?_
        refine va_put (D := D) (ci := 12) (v := .int v30) (ty := .int) (C := RX12) (T := TX12) (N := 42) hx hb hts in_X12 tyX12 tyX12_ok nmX12 hown hK hP (hD.to (sm_wM_m _ _)) hS 1 (sm_gX12 σ α) rfl 6 (by decide) k_4 (fun _ h9 => h9) rfl (by decide +kernel) rfl rfl (Nat.le_of_ble_eq_true rfl) dX12_come_127 (fun H locs hP _ hS => ?_)
        rw [sm_iM10] at hP
        obtain ⟨σ35, eσ35⟩ : ∃ x : sm_S, x = sm_i σ 10 v30 := ⟨_, rfl⟩
        replace hF := hF σ35 eσ35
        rw [← eσ35] at hP
        refine lv_iconst (v := 0) hx hb dX12_come_130 (by decide) ?_
        exact W.zret (v := 0) hx hb hr sm_z0.1 (fun t ht hW => ⟨⟨0, σ35, rfl, hF, (by unfold sm_B; rw [ht]; exact hP)⟩, hS.F ht⟩) hS.2.2 dX12_come_131
    · replace hF := hF.2 h32
      refine lv_aload_n hx hb dX12_come_48 rfl (lv_at hl 2 rfl) ?_
      refine va_get (D := D) (ci := 12) (v := .ref (α.1 21)) (C := RX12) (T := TX12) (N := 42) hx hb hts in_X12 hown hK hP 1 (sm_gX12 σ α) rfl 1 (by decide) k_6 (fun _ h9 => h9) rfl dX12_come_49 ?_
      refine lv_iload hx hb dX12_come_52 (lv_at hl 0 rfl) ?_
      refine lv_aload_n hx hb dX12_come_54 rfl (lv_at hl 2 rfl) ?_
      refine va_get (D := D) (ci := 12) (v := .int (σ.1 9)) (C := RX12) (T := TX12) (N := 42) hx hb hts in_X12 hown hK hP 1 (sm_gX12 σ α) rfl 5 (by decide) k_2 (fun _ h9 => h9) rfl dX12_come_55 ?_
      obtain ⟨h36, hF⟩ := hF
      refine va_iast (n := (σ.2.2.1 21)) (f := (σ.2.2.2.1 21)) (x := (σ.1 9)) hx hb hK hP (hD.to (sm_wM_m _ _)) hS 21 19 (sm_aM21 σ α) (sm_yM21 α) h36 dX12_come_58 (fun H locs hP _ hS => ?_)
      rw [sm_rM21] at hP
      obtain ⟨σ37, eσ37⟩ : ∃ x : sm_S, x = sm_r σ 21 (upd (σ.2.2.2.1 21) v30.toNatClampNeg (σ.1 9)) := ⟨_, rfl⟩
      replace hF := hF σ37 eσ37
      rw [← eσ37] at hP
      refine lv_iconst (v := 0) hx hb dX12_come_59 (by decide) ?_
      refine lv_istore (lv' := [(5, .int 0), (4, .int v30), (3, .int v28), (0, .ref (α.1 1)), (1, .int p1), (2, .int p2)]) hx hb dX12_come_60 hl (by decide) rfl (fun ls hl => ?_)
      obtain ⟨n62, hF⟩ := hF
      exact B62 n62 σ37 v28 v30 0 hF H locs ls hP hS (lv_sub hl [3, 2, 1, 0] rfl)
  · replace hF := hF.2 h26
    refine lv_iconst (v := 0) hx hb dX12_come_13 (by decide) ?_
    exact W.zret (v := 0) hx hb hr sm_z0.1 (fun t ht hW => ⟨⟨0, σ, rfl, hF, (by unfold sm_B; rw [ht]; exact hP)⟩, hS.F ht⟩) hS.2.2 dX12_come_14
theorem dX12_takeUp_0 : decode cX12_takeUp 0 = .ok (.aload_n 0, 1) := by decide +kernel
theorem dX12_takeUp_1 : decode cX12_takeUp 1 = .ok (.aload_n 0, 1) := by decide +kernel
theorem dX12_takeUp_2 : decode cX12_takeUp 2 = .ok (.getfield 33, 3) := by decide +kernel
theorem dX12_takeUp_5 : decode cX12_takeUp 5 = .ok (.iload_n 2, 1) := by decide +kernel
theorem dX12_takeUp_6 : decode cX12_takeUp 6 = .ok (.iaload, 1) := by decide +kernel
theorem dX12_takeUp_7 : decode cX12_takeUp 7 = .ok (.putfield 36, 3) := by decide +kernel
theorem dX12_takeUp_10 : decode cX12_takeUp 10 = .ok (.iconst 0, 1) := by decide +kernel
theorem dX12_takeUp_11 : decode cX12_takeUp 11 = .ok (.istore_n 3, 1) := by decide +kernel
theorem dX12_takeUp_12 : decode cX12_takeUp 12 = .ok (.iload_n 3, 1) := by decide +kernel
theorem dX12_takeUp_13 : decode cX12_takeUp 13 = .ok (.aload_n 0, 1) := by decide +kernel
theorem dX12_takeUp_14 : decode cX12_takeUp 14 = .ok (.getfield 10, 3) := by decide +kernel
theorem dX12_takeUp_17 : decode cX12_takeUp 17 = .ok (.getfield 27, 3) := by decide +kernel
theorem dX12_takeUp_20 : decode cX12_takeUp 20 = .ok (.iload_n 1, 1) := by decide +kernel
theorem dX12_takeUp_21 : decode cX12_takeUp 21 = .ok (.iaload, 1) := by decide +kernel
theorem dX12_takeUp_22 : decode cX12_takeUp 22 = .ok (.aload_n 0, 1) := by decide +kernel
theorem dX12_takeUp_23 : decode cX12_takeUp 23 = .ok (.getfield 36, 3) := by decide +kernel
theorem dX12_takeUp_26 : decode cX12_takeUp 26 = .ok (.iadd, 1) := by decide +kernel
theorem dX12_takeUp_27 : decode cX12_takeUp 27 = .ok (.if_icmp .ge 26, 3) := by decide +kernel
theorem dX12_takeUp_30 : decode cX12_takeUp 30 = .ok (.aload_n 0, 1) := by decide +kernel
theorem dX12_takeUp_31 : decode cX12_takeUp 31 = .ok (.getfield 44, 3) := by decide +kernel
theorem dX12_takeUp_34 : decode cX12_takeUp 34 = .ok (.iload_n 3, 1) := by decide +kernel
theorem dX12_takeUp_35 : decode cX12_takeUp 35 = .ok (.aload_n 0, 1) := by decide +kernel
theorem dX12_takeUp_36 : decode cX12_takeUp 36 = .ok (.getfield 40, 3) := by decide +kernel
theorem dX12_takeUp_39 : decode cX12_takeUp 39 = .ok (.bipush 12, 2) := by decide +kernel
theorem dX12_takeUp_41 : decode cX12_takeUp 41 = .ok (.iload_n 2, 1) := by decide +kernel
theorem dX12_takeUp_42 : decode cX12_takeUp 42 = .ok (.imul, 1) := by decide +kernel
theorem dX12_takeUp_43 : decode cX12_takeUp 43 = .ok (.iload_n 3, 1) := by decide +kernel
theorem dX12_takeUp_44 : decode cX12_takeUp 44 = .ok (.iadd, 1) := by decide +kernel
theorem dX12_takeUp_45 : decode cX12_takeUp 45 = .ok (.baload, 1) := by decide +kernel
theorem dX12_takeUp_46 : decode cX12_takeUp 46 = .ok (.iastore, 1) := by decide +kernel
theorem dX12_takeUp_47 : decode cX12_takeUp 47 = .ok (.iinc 3 1, 3) := by decide +kernel
theorem dX12_takeUp_50 : decode cX12_takeUp 50 = .ok (.goto (-38), 3) := by decide +kernel
theorem dX12_takeUp_53 : decode cX12_takeUp 53 = .ok (.return_, 1) := by decide +kernel
def wp_X12_takeUp : List Cond := .code yX12_takeUp cX12_takeUp 4 none :: (([.fieldLink RX12 10 "SteadyMachineModel" "image" "LSteadyMachineModel$Image;", .fieldLink RX12 36 "SteadyMachineModel" "top" "I", .fieldLink RX12 44 "SteadyMachineModel" "now" "[I", .fieldLink RX12 40 "SteadyMachineModel" "types" "[B", .fieldLink RX12 33 "SteadyMachineModel" "high" "[I"] ++ wsX110) ++ wsX120)
theorem wq_X12_takeUp : wp_X12_takeUp.all goodWord = true := wa_c rfl (wa_a (wa_a (by decide +kernel) uq_X11) uq_X12)
theorem wt_X12_takeUp : GoodIn lw_tbl wp_X12_takeUp := wm_c (List.mem_of_getElem? (i := 1310) (by decide +kernel)) rfl (wm_a (wm_a (goodIn_r _ [1490, 1495, 1494, 1492, 1491] (by decide +kernel) (by decide +kernel)) ut_X11) ut_X12)
theorem wi_X12_takeUp_X11 : ∀ w ∈ wsX110, w ∈ wp_X12_takeUp := fun w h => List.mem_cons_of_mem _ (List.mem_append_left _ (List.mem_append_right _ h))
theorem wi_X12_takeUp_X12 : ∀ w ∈ wsX120, w ∈ wp_X12_takeUp := fun w h => List.mem_cons_of_mem _ (List.mem_append_right _ h)
set_option maxHeartbeats 4000000 in
set_option maxRecDepth 100000 in
theorem c_X12_takeUp (l : Launch) (D : va_G) (sz t0 : Nat) (σ : sm_S) (α : sm_A) (p1 : Int32) (p2 : Int32) (K : sm_S → Prop) (hF : mp_X12_takeUp σ p1 p2 K) : Met l yX12_takeUp wp_X12_takeUp { frames := 0, cells := 0, slots := 0, locals := 0 } (sm_P sm_wM sm_tM 40 D sz t0 σ α [.ref (α.1 1), .int p1, .int p2]) (va_Qv K (sm_B sm_wM D α) (sm_a α 40 sz)) 0 0 (sm_a α 40 sz) := by
  refine Met.ofW (cc := cX12_takeUp) (maxL := 4) (ret := none) (by decide) rfl ?_
  intro p e s m args below meth c s₁ B hml hv
  obtain ⟨rfl, hsz, hP, hK, hD0, hE⟩ := hv
  have hx := B.exec
  have hb := B.bytes
  have hr := B.returns
  have hts := atoms_spec (ws := wp_X12_takeUp) B.pre
  have hown : s.vm.findClass RX12 = some m.cls := findClass_of_methodNamed B.named
  have hlocks := B.notSynchronized
  subst hsz
  have hD : sm_D (sm_a α 40 s.heap.size) α 40 := hD0.own
  have hA : ∀ q : Nat, s.heap.size ≤ q → sm_a α 40 s.heap.size q := fun q h => Or.inr h
  generalize hAe : sm_a α 40 s.heap.size = A at hD hA hE ⊢
  have hS : va_S A s.heap s.heap [] := va_S.rf
  have in_X11 : ∀ w ∈ wsX110, w ∈ wp_X12_takeUp := wi_X12_takeUp_X11
  have in_X12 : ∀ w ∈ wsX120, w ∈ wp_X12_takeUp := wi_X12_takeUp_X12
  have k_0 := hts (.fieldLink RX12 10 "SteadyMachineModel" "image" "LSteadyMachineModel$Image;") (by decide +kernel)
  have k_1 := hts (.fieldLink RX12 36 "SteadyMachineModel" "top" "I") (by decide +kernel)
  have k_2 := hts (.fieldLink RX12 44 "SteadyMachineModel" "now" "[I") (by decide +kernel)
  have k_3 := hts (.fieldLink RX12 40 "SteadyMachineModel" "types" "[B") (by decide +kernel)
  have k_4 := hts (.fieldLink RX12 33 "SteadyMachineModel" "high" "[I") (by decide +kernel)
  have hl := lv_entry ([.ref (α.1 1), .int p1, .int p2]) (n := 4) (Nat.le_of_ble_eq_true rfl)
  rw [lg_entry_eq]
  generalize (lg_sl ([.ref (α.1 1), .int p1, .int p2]) ++ List.replicate (4 - (lg_sl ([.ref (α.1 1), .int p1, .int p2])).length) Slot.unset).toArray = ls at hl ⊢
  have hl : lv_has ls 4 [(0, .ref (α.1 1)), (1, .int p1), (2, .int p2)] := hl
  have B12 : ∀ (n : Nat) (σ : sm_S) (x1 : Int32) (x2 : Int32) (x3 : Int32), mp_X12_takeUp_12 K n σ x1 x2 x3 → sm_J p l e (headSpec wp_X12_takeUp { frames := 0, cells := 0, slots := 0, locals := 0 }).room s m ([.ref (α.1 1), .int p1, .int p2] : List Value).toArray below meth c (MQ below (va_Qv K (sm_B sm_wM D α) A) ([.ref (α.1 1), .int p1, .int p2] : List Value).toArray s 0 0 A) D A 4 (sm_wM σ α) 12 [(0, .ref (α.1 1)), (1, .int x1), (2, .int x2), (3, .int x3)] [] := by
    intro n12
    induction n12 with
    | zero =>
      intro σ x1 x2 x3 hF
      exact hF.elim
    | succ n12 ih12 =>
      intro σ x1 x2 x3 hF H locs ls hP hS hl
      unfold mp_X12_takeUp_12 at hF
      refine lv_iload_n hx hb dX12_takeUp_12 rfl (lv_at hl 3 rfl) ?_
      refine lv_aload_n hx hb dX12_takeUp_13 rfl (lv_at hl 0 rfl) ?_
      refine va_get (D := D) (ci := 12) (v := .ref (α.1 0)) (C := RX12) (T := TX12) (N := 42) hx hb hts in_X12 hown hK hP 1 (sm_gX12 σ α) rfl 0 (by decide) k_0 (fun _ h9 => h9) rfl dX12_takeUp_14 ?_
      refine va_getN (D := D) (ci := 11) (v := .ref (α.1 15)) (C := RX11) (T := TX11) (N := 28) hx hb hts in_X11 hown hK hP 0 (sm_gX11 σ α) rfl 20 (by decide) (va_Nw.use rfl (hE.1 (.fieldLinkNest "SteadyMachineModel" 27 "SteadyMachineModel$Image" "locals" "[I" "SteadyMachineModel") (by decide +kernel))) (fun _ h9 => h9) rfl dX12_takeUp_17 ?_
      refine lv_iload_n hx hb dX12_takeUp_20 rfl (lv_at hl 1 rfl) ?_
      obtain ⟨h1, hF⟩ := hF
      refine va_iald (n := (σ.2.2.1 15)) (f := (σ.2.2.2.1 15)) hx hb hK hP 15 13 (sm_aM15 σ α) (sm_yM15 α) h1 dX12_takeUp_21 ?_
      refine lv_aload_n hx hb dX12_takeUp_22 rfl (lv_at hl 0 rfl) ?_
      refine va_get (D := D) (ci := 12) (v := .int (σ.1 9)) (C := RX12) (T := TX12) (N := 42) hx hb hts in_X12 hown hK hP 1 (sm_gX12 σ α) rfl 5 (by decide) k_1 (fun _ h9 => h9) rfl dX12_takeUp_23 ?_
      refine lv_iadd hx hb dX12_takeUp_26 ?_
      refine lv_icmp_ge (tgt := 53) hx hb dX12_takeUp_27 (by decide) (fun h2 => ?_) (fun h2 => ?_)
      · replace hF := hF.1 h2
        exact W.vret hx hb hr (fun t ht hW => ⟨⟨σ, rfl, hF, (by unfold sm_B; rw [ht]; exact hP)⟩, hS.F ht⟩) hS.2.2 dX12_takeUp_53
      · replace hF := hF.2 h2
        refine lv_aload_n hx hb dX12_takeUp_30 rfl (lv_at hl 0 rfl) ?_
        refine va_get (D := D) (ci := 12) (v := .ref (α.1 24)) (C := RX12) (T := TX12) (N := 42) hx hb hts in_X12 hown hK hP 1 (sm_gX12 σ α) rfl 4 (by decide) k_2 (fun _ h9 => h9) rfl dX12_takeUp_31 ?_
        refine lv_iload_n hx hb dX12_takeUp_34 rfl (lv_at hl 3 rfl) ?_
        refine lv_aload_n hx hb dX12_takeUp_35 rfl (lv_at hl 0 rfl) ?_
        refine va_get (D := D) (ci := 12) (v := .ref (α.1 22)) (C := RX12) (T := TX12) (N := 42) hx hb hts in_X12 hown hK hP 1 (sm_gX12 σ α) rfl 2 (by decide) k_3 (fun _ h9 => h9) rfl dX12_takeUp_36 ?_
        refine lv_bipush (v := 12) hx hb dX12_takeUp_39 (by decide) ?_
        refine lv_iload_n hx hb dX12_takeUp_41 rfl (lv_at hl 2 rfl) ?_
        refine lv_imul hx hb dX12_takeUp_42 ?_
        refine lv_iload_n hx hb dX12_takeUp_43 rfl (lv_at hl 3 rfl) ?_
        refine lv_iadd hx hb dX12_takeUp_44 ?_
        obtain ⟨h3, hF⟩ := hF
        refine va_bald (n := (σ.2.2.1 22)) (f := (σ.2.2.2.1 22)) hx hb hK hP 22 20 (sm_aM22 σ α) (sm_yM22 α) h3 dX12_takeUp_45 ?_
        obtain ⟨h4, hF⟩ := hF
        refine va_iast (n := (σ.2.2.1 24)) (f := (σ.2.2.2.1 24)) (x := ((σ.2.2.2.1 22) ((12 * x2) + x3).toNatClampNeg)) hx hb hK hP (hD.to (sm_wM_m _ _)) hS 24 22 (sm_aM24 σ α) (sm_yM24 α) h4 dX12_takeUp_46 (fun H locs hP _ hS => ?_)
        rw [sm_rM24] at hP
        obtain ⟨σ5, eσ5⟩ : ∃ x : sm_S, x = sm_r σ 24 (upd (σ.2.2.2.1 24) x3.toNatClampNeg ((σ.2.2.2.1 22) ((12 * x2) + x3).toNatClampNeg)) := ⟨_, rfl⟩
        replace hF := hF σ5 eσ5
        rw [← eσ5] at hP
        obtain ⟨v6, ev6⟩ : ∃ y : Int32, y = x3 + 1 := ⟨_, rfl⟩
        replace hF := hF v6 ev6
        refine lv_iinc (v := v6) (lv' := [(3, .int v6), (0, .ref (α.1 1)), (1, .int x1), (2, .int x2)]) hx hb dX12_takeUp_47 hl (k := 3) rfl (by rw [ev6]; rfl) (by decide) rfl (fun ls hl => ?_)
        refine lv_goto (tgt := 12) hx hb dX12_takeUp_50 (by decide) ?_
        exact ih12 σ5 x1 x2 v6 hF H locs ls hP hS (lv_sub hl [1, 2, 3, 0] rfl)
  unfold mp_X12_takeUp at hF
  revert hP hS
  generalize hLo : ([] : List Loc) = locs
  suffices h9 : ∀ (H : Heap) (locs : List Loc), va_P D vwCl (sm_wM σ α) H → va_S A s.heap H locs → W p l e (headSpec wp_X12_takeUp { frames := 0, cells := 0, slots := 0, locals := 0 }).room s m ([.ref (α.1 1), .int p1, .int p2] : List Value).toArray below meth c H locs 0 0 (MQ below (va_Qv K (sm_B sm_wM D α) A) ([.ref (α.1 1), .int p1, .int p2] : List Value).toArray s 0 0 A) (F0 m 0 ls []) from fun hP hS => h9 s.heap locs hP hS
  intro H locs hP hS
  refine lv_aload_n hx hb dX12_takeUp_0 rfl (lv_at hl 0 rfl) ?_
  refine lv_aload_n hx hb dX12_takeUp_1 rfl (lv_at hl 0 rfl) ?_
  refine va_get (D := D) (ci := 12) (v := .ref (α.1 21)) (C := RX12) (T := TX12) (N := 42) hx hb hts in_X12 hown hK hP 1 (sm_gX12 σ α) rfl 1 (by decide) k_4 (fun _ h9 => h9) rfl dX12_takeUp_2 ?_
  refine lv_iload_n hx hb dX12_takeUp_5 rfl (lv_at hl 2 rfl) ?_
  obtain ⟨h7, hF⟩ := hF
  refine va_iald (n := (σ.2.2.1 21)) (f := (σ.2.2.2.1 21)) hx hb hK hP 21 19 (sm_aM21 σ α) (sm_yM21 α) h7 dX12_takeUp_6 ?_
  refine va_put (D := D) (ci := 12) (v := .int ((σ.2.2.2.1 21) p2.toNatClampNeg)) (ty := .int) (C := RX12) (T := TX12) (N := 42) hx hb hts in_X12 tyX12 tyX12_ok nmX12 hown hK hP (hD.to (sm_wM_m _ _)) hS 1 (sm_gX12 σ α) rfl 5 (by decide) k_1 (fun _ h9 => h9) rfl (by decide +kernel) rfl rfl (Nat.le_of_ble_eq_true rfl) dX12_takeUp_7 (fun H locs hP _ hS => ?_)
  rw [sm_iM9] at hP
  obtain ⟨σ8, eσ8⟩ : ∃ x : sm_S, x = sm_i σ 9 ((σ.2.2.2.1 21) p2.toNatClampNeg) := ⟨_, rfl⟩
  replace hF := hF σ8 eσ8
  rw [← eσ8] at hP
  refine lv_iconst (v := 0) hx hb dX12_takeUp_10 (by decide) ?_
  refine lv_istore_n (lv' := [(3, .int 0), (0, .ref (α.1 1)), (1, .int p1), (2, .int p2)]) hx hb dX12_takeUp_11 rfl hl (by decide) rfl (fun ls hl => ?_)
  obtain ⟨n12, hF⟩ := hF
  exact B12 n12 σ8 p1 p2 0 hF H locs ls hP hS (lv_sub hl [1, 2, 3, 0] rfl)
theorem dX12_push_0 : decode cX12_push 0 = .ok (.aload_n 0, 1) := by decide +kernel
theorem dX12_push_1 : decode cX12_push 1 = .ok (.getfield 36, 3) := by decide +kernel
theorem dX12_push_4 : decode cX12_push 4 = .ok (.aload_n 0, 1) := by decide +kernel
theorem dX12_push_5 : decode cX12_push 5 = .ok (.getfield 10, 3) := by decide +kernel
theorem dX12_push_8 : decode cX12_push 8 = .ok (.getfield 58, 3) := by decide +kernel
theorem dX12_push_11 : decode cX12_push 11 = .ok (.iload_n 1, 1) := by decide +kernel
theorem dX12_push_12 : decode cX12_push 12 = .ok (.iaload, 1) := by decide +kernel
theorem dX12_push_13 : decode cX12_push 13 = .ok (.if_icmp .ne 5, 3) := by decide +kernel
theorem dX12_push_16 : decode cX12_push 16 = .ok (.iconst 0, 1) := by decide +kernel
theorem dX12_push_17 : decode cX12_push 17 = .ok (.ireturn, 1) := by decide +kernel
theorem dX12_push_18 : decode cX12_push 18 = .ok (.aload_n 0, 1) := by decide +kernel
theorem dX12_push_19 : decode cX12_push 19 = .ok (.getfield 44, 3) := by decide +kernel
theorem dX12_push_22 : decode cX12_push 22 = .ok (.aload_n 0, 1) := by decide +kernel
theorem dX12_push_23 : decode cX12_push 23 = .ok (.getfield 10, 3) := by decide +kernel
theorem dX12_push_26 : decode cX12_push 26 = .ok (.getfield 27, 3) := by decide +kernel
theorem dX12_push_29 : decode cX12_push 29 = .ok (.iload_n 1, 1) := by decide +kernel
theorem dX12_push_30 : decode cX12_push 30 = .ok (.iaload, 1) := by decide +kernel
theorem dX12_push_31 : decode cX12_push 31 = .ok (.aload_n 0, 1) := by decide +kernel
theorem dX12_push_32 : decode cX12_push 32 = .ok (.getfield 36, 3) := by decide +kernel
theorem dX12_push_35 : decode cX12_push 35 = .ok (.iadd, 1) := by decide +kernel
theorem dX12_push_36 : decode cX12_push 36 = .ok (.iload_n 2, 1) := by decide +kernel
theorem dX12_push_37 : decode cX12_push 37 = .ok (.iastore, 1) := by decide +kernel
theorem dX12_push_38 : decode cX12_push 38 = .ok (.aload_n 0, 1) := by decide +kernel
theorem dX12_push_39 : decode cX12_push 39 = .ok (.dup, 1) := by decide +kernel
theorem dX12_push_40 : decode cX12_push 40 = .ok (.getfield 36, 3) := by decide +kernel
theorem dX12_push_43 : decode cX12_push 43 = .ok (.iconst 1, 1) := by decide +kernel
theorem dX12_push_44 : decode cX12_push 44 = .ok (.iadd, 1) := by decide +kernel
theorem dX12_push_45 : decode cX12_push 45 = .ok (.putfield 36, 3) := by decide +kernel
theorem dX12_push_48 : decode cX12_push 48 = .ok (.iconst 1, 1) := by decide +kernel
theorem dX12_push_49 : decode cX12_push 49 = .ok (.ireturn, 1) := by decide +kernel
def wp_X12_push : List Cond := .code yX12_push cX12_push 3 (some .boolean) :: (([.fieldLink RX12 36 "SteadyMachineModel" "top" "I", .fieldLink RX12 10 "SteadyMachineModel" "image" "LSteadyMachineModel$Image;", .fieldLink RX12 44 "SteadyMachineModel" "now" "[I"] ++ wsX110) ++ wsX120)
theorem wq_X12_push : wp_X12_push.all goodWord = true := wa_c rfl (wa_a (wa_a (by decide +kernel) uq_X11) uq_X12)
theorem wt_X12_push : GoodIn lw_tbl wp_X12_push := wm_c (List.mem_of_getElem? (i := 1314) (by decide +kernel)) rfl (wm_a (wm_a (goodIn_r _ [1495, 1490, 1494] (by decide +kernel) (by decide +kernel)) ut_X11) ut_X12)
theorem wi_X12_push_X11 : ∀ w ∈ wsX110, w ∈ wp_X12_push := fun w h => List.mem_cons_of_mem _ (List.mem_append_left _ (List.mem_append_right _ h))
theorem wi_X12_push_X12 : ∀ w ∈ wsX120, w ∈ wp_X12_push := fun w h => List.mem_cons_of_mem _ (List.mem_append_right _ h)
set_option maxHeartbeats 4000000 in
set_option maxRecDepth 100000 in
theorem c_X12_push (l : Launch) (D : va_G) (sz t0 : Nat) (σ : sm_S) (α : sm_A) (p1 : Int32) (p2 : Int32) (K : Int32 → sm_S → Prop) (hF : mp_X12_push σ p1 p2 K) : Met l yX12_push wp_X12_push { frames := 0, cells := 0, slots := 0, locals := 0 } (sm_P sm_wM sm_tM 40 D sz t0 σ α [.ref (α.1 1), .int p1, .int p2]) (va_Qi K (sm_B sm_wM D α) (sm_a α 40 sz)) 0 0 (sm_a α 40 sz) := by
  refine Met.ofW (cc := cX12_push) (maxL := 3) (ret := (some .boolean)) (by decide) rfl ?_
  intro p e s m args below meth c s₁ B hml hv
  obtain ⟨rfl, hsz, hP, hK, hD0, hE⟩ := hv
  have hx := B.exec
  have hb := B.bytes
  have hr := B.returns
  have hts := atoms_spec (ws := wp_X12_push) B.pre
  have hown : s.vm.findClass RX12 = some m.cls := findClass_of_methodNamed B.named
  have hlocks := B.notSynchronized
  subst hsz
  have hD : sm_D (sm_a α 40 s.heap.size) α 40 := hD0.own
  have hA : ∀ q : Nat, s.heap.size ≤ q → sm_a α 40 s.heap.size q := fun q h => Or.inr h
  generalize hAe : sm_a α 40 s.heap.size = A at hD hA hE ⊢
  have hS : va_S A s.heap s.heap [] := va_S.rf
  have in_X11 : ∀ w ∈ wsX110, w ∈ wp_X12_push := wi_X12_push_X11
  have in_X12 : ∀ w ∈ wsX120, w ∈ wp_X12_push := wi_X12_push_X12
  have k_0 := hts (.fieldLink RX12 36 "SteadyMachineModel" "top" "I") (by decide +kernel)
  have k_1 := hts (.fieldLink RX12 10 "SteadyMachineModel" "image" "LSteadyMachineModel$Image;") (by decide +kernel)
  have k_2 := hts (.fieldLink RX12 44 "SteadyMachineModel" "now" "[I") (by decide +kernel)
  have hl := lv_entry ([.ref (α.1 1), .int p1, .int p2]) (n := 3) (Nat.le_of_ble_eq_true rfl)
  rw [lg_entry_eq]
  generalize (lg_sl ([.ref (α.1 1), .int p1, .int p2]) ++ List.replicate (3 - (lg_sl ([.ref (α.1 1), .int p1, .int p2])).length) Slot.unset).toArray = ls at hl ⊢
  have hl : lv_has ls 3 [(0, .ref (α.1 1)), (1, .int p1), (2, .int p2)] := hl
  unfold mp_X12_push at hF
  revert hP hS
  generalize hLo : ([] : List Loc) = locs
  suffices h9 : ∀ (H : Heap) (locs : List Loc), va_P D vwCl (sm_wM σ α) H → va_S A s.heap H locs → W p l e (headSpec wp_X12_push { frames := 0, cells := 0, slots := 0, locals := 0 }).room s m ([.ref (α.1 1), .int p1, .int p2] : List Value).toArray below meth c H locs 0 0 (MQ below (va_Qi K (sm_B sm_wM D α) A) ([.ref (α.1 1), .int p1, .int p2] : List Value).toArray s 0 0 A) (F0 m 0 ls []) from fun hP hS => h9 s.heap locs hP hS
  intro H locs hP hS
  refine lv_aload_n hx hb dX12_push_0 rfl (lv_at hl 0 rfl) ?_
  refine va_get (D := D) (ci := 12) (v := .int (σ.1 9)) (C := RX12) (T := TX12) (N := 42) hx hb hts in_X12 hown hK hP 1 (sm_gX12 σ α) rfl 5 (by decide) k_0 (fun _ h9 => h9) rfl dX12_push_1 ?_
  refine lv_aload_n hx hb dX12_push_4 rfl (lv_at hl 0 rfl) ?_
  refine va_get (D := D) (ci := 12) (v := .ref (α.1 0)) (C := RX12) (T := TX12) (N := 42) hx hb hts in_X12 hown hK hP 1 (sm_gX12 σ α) rfl 0 (by decide) k_1 (fun _ h9 => h9) rfl dX12_push_5 ?_
  refine va_getN (D := D) (ci := 11) (v := .ref (α.1 16)) (C := RX11) (T := TX11) (N := 28) hx hb hts in_X11 hown hK hP 0 (sm_gX11 σ α) rfl 21 (by decide) (va_Nw.use rfl (hE.1 (.fieldLinkNest "SteadyMachineModel" 58 "SteadyMachineModel$Image" "stacks" "[I" "SteadyMachineModel") (by decide +kernel))) (fun _ h9 => h9) rfl dX12_push_8 ?_
  refine lv_iload_n hx hb dX12_push_11 rfl (lv_at hl 1 rfl) ?_
  obtain ⟨h1, hF⟩ := hF
  refine va_iald (n := (σ.2.2.1 16)) (f := (σ.2.2.2.1 16)) hx hb hK hP 16 14 (sm_aM16 σ α) (sm_yM16 α) h1 dX12_push_12 ?_
  refine lv_icmp_ne (tgt := 18) hx hb dX12_push_13 (by decide) (fun h2 => ?_) (fun h2 => ?_)
  · replace hF := hF.1 h2
    refine lv_aload_n hx hb dX12_push_18 rfl (lv_at hl 0 rfl) ?_
    refine va_get (D := D) (ci := 12) (v := .ref (α.1 24)) (C := RX12) (T := TX12) (N := 42) hx hb hts in_X12 hown hK hP 1 (sm_gX12 σ α) rfl 4 (by decide) k_2 (fun _ h9 => h9) rfl dX12_push_19 ?_
    refine lv_aload_n hx hb dX12_push_22 rfl (lv_at hl 0 rfl) ?_
    refine va_get (D := D) (ci := 12) (v := .ref (α.1 0)) (C := RX12) (T := TX12) (N := 42) hx hb hts in_X12 hown hK hP 1 (sm_gX12 σ α) rfl 0 (by decide) k_1 (fun _ h9 => h9) rfl dX12_push_23 ?_
    refine va_getN (D := D) (ci := 11) (v := .ref (α.1 15)) (C := RX11) (T := TX11) (N := 28) hx hb hts in_X11 hown hK hP 0 (sm_gX11 σ α) rfl 20 (by decide) (va_Nw.use rfl (hE.1 (.fieldLinkNest "SteadyMachineModel" 27 "SteadyMachineModel$Image" "locals" "[I" "SteadyMachineModel") (by decide +kernel))) (fun _ h9 => h9) rfl dX12_push_26 ?_
    refine lv_iload_n hx hb dX12_push_29 rfl (lv_at hl 1 rfl) ?_
    obtain ⟨h3, hF⟩ := hF
    refine va_iald (n := (σ.2.2.1 15)) (f := (σ.2.2.2.1 15)) hx hb hK hP 15 13 (sm_aM15 σ α) (sm_yM15 α) h3 dX12_push_30 ?_
    refine lv_aload_n hx hb dX12_push_31 rfl (lv_at hl 0 rfl) ?_
    refine va_get (D := D) (ci := 12) (v := .int (σ.1 9)) (C := RX12) (T := TX12) (N := 42) hx hb hts in_X12 hown hK hP 1 (sm_gX12 σ α) rfl 5 (by decide) k_0 (fun _ h9 => h9) rfl dX12_push_32 ?_
    refine lv_iadd hx hb dX12_push_35 ?_
    refine lv_iload_n hx hb dX12_push_36 rfl (lv_at hl 2 rfl) ?_
    obtain ⟨h4, hF⟩ := hF
    refine va_iast (n := (σ.2.2.1 24)) (f := (σ.2.2.2.1 24)) (x := p2) hx hb hK hP (hD.to (sm_wM_m _ _)) hS 24 22 (sm_aM24 σ α) (sm_yM24 α) h4 dX12_push_37 (fun H locs hP _ hS => ?_)
    rw [sm_rM24] at hP
    obtain ⟨σ5, eσ5⟩ : ∃ x : sm_S, x = sm_r σ 24 (upd (σ.2.2.2.1 24) (((σ.2.2.2.1 15) p1.toNatClampNeg) + (σ.1 9)).toNatClampNeg p2) := ⟨_, rfl⟩
    replace hF := hF σ5 eσ5
    rw [← eσ5] at hP
    refine lv_aload_n hx hb dX12_push_38 rfl (lv_at hl 0 rfl) ?_
    refine lv_dup hx hb dX12_push_39 rfl ?_
    refine va_get (D := D) (ci := 12) (v := .int (σ5.1 9)) (C := RX12) (T := TX12) (N := 42) hx hb hts in_X12 hown hK hP 1 (sm_gX12 σ5 α) rfl 5 (by decide) k_0 (fun _ h9 => h9) rfl dX12_push_40 ?_
    refine lv_iconst (v := 1) hx hb dX12_push_43 (by decide) ?_
    refine lv_iadd hx hb dX12_push_44 ?_
    refine va_put (D := D) (ci := 12) (v := .int ((σ5.1 9) + 1)) (ty := .int) (C := RX12) (T := TX12) (N := 42) hx hb hts in_X12 tyX12 tyX12_ok nmX12 hown hK hP (hD.to (sm_wM_m _ _)) hS 1 (sm_gX12 σ5 α) rfl 5 (by decide) k_0 (fun _ h9 => h9) rfl (by decide +kernel) rfl rfl (Nat.le_of_ble_eq_true rfl) dX12_push_45 (fun H locs hP _ hS => ?_)
    rw [sm_iM9] at hP
    obtain ⟨σ6, eσ6⟩ : ∃ x : sm_S, x = sm_i σ5 9 ((σ5.1 9) + 1) := ⟨_, rfl⟩
    replace hF := hF σ6 eσ6
    rw [← eσ6] at hP
    refine lv_iconst (v := 1) hx hb dX12_push_48 (by decide) ?_
    exact W.zret (v := 1) hx hb hr sm_z1.1 (fun t ht hW => ⟨⟨1, σ6, rfl, hF, (by unfold sm_B; rw [ht]; exact hP)⟩, hS.F ht⟩) hS.2.2 dX12_push_49
  · replace hF := hF.2 h2
    refine lv_iconst (v := 0) hx hb dX12_push_16 (by decide) ?_
    exact W.zret (v := 0) hx hb hr sm_z0.1 (fun t ht hW => ⟨⟨0, σ, rfl, hF, (by unfold sm_B; rw [ht]; exact hP)⟩, hS.F ht⟩) hS.2.2 dX12_push_17
theorem dX12_pop_0 : decode cX12_pop 0 = .ok (.aload_n 0, 1) := by decide +kernel
theorem dX12_pop_1 : decode cX12_pop 1 = .ok (.getfield 36, 3) := by decide +kernel
theorem dX12_pop_4 : decode cX12_pop 4 = .ok (.ifCond .ne 5, 3) := by decide +kernel
theorem dX12_pop_7 : decode cX12_pop 7 = .ok (.iconst (-1), 1) := by decide +kernel
theorem dX12_pop_8 : decode cX12_pop 8 = .ok (.ireturn, 1) := by decide +kernel
theorem dX12_pop_9 : decode cX12_pop 9 = .ok (.aload_n 0, 1) := by decide +kernel
theorem dX12_pop_10 : decode cX12_pop 10 = .ok (.dup, 1) := by decide +kernel
theorem dX12_pop_11 : decode cX12_pop 11 = .ok (.getfield 36, 3) := by decide +kernel
theorem dX12_pop_14 : decode cX12_pop 14 = .ok (.iconst 1, 1) := by decide +kernel
theorem dX12_pop_15 : decode cX12_pop 15 = .ok (.isub, 1) := by decide +kernel
theorem dX12_pop_16 : decode cX12_pop 16 = .ok (.putfield 36, 3) := by decide +kernel
theorem dX12_pop_19 : decode cX12_pop 19 = .ok (.aload_n 0, 1) := by decide +kernel
theorem dX12_pop_20 : decode cX12_pop 20 = .ok (.getfield 44, 3) := by decide +kernel
theorem dX12_pop_23 : decode cX12_pop 23 = .ok (.aload_n 0, 1) := by decide +kernel
theorem dX12_pop_24 : decode cX12_pop 24 = .ok (.getfield 10, 3) := by decide +kernel
theorem dX12_pop_27 : decode cX12_pop 27 = .ok (.getfield 27, 3) := by decide +kernel
theorem dX12_pop_30 : decode cX12_pop 30 = .ok (.iload_n 1, 1) := by decide +kernel
theorem dX12_pop_31 : decode cX12_pop 31 = .ok (.iaload, 1) := by decide +kernel
theorem dX12_pop_32 : decode cX12_pop 32 = .ok (.aload_n 0, 1) := by decide +kernel
theorem dX12_pop_33 : decode cX12_pop 33 = .ok (.getfield 36, 3) := by decide +kernel
theorem dX12_pop_36 : decode cX12_pop 36 = .ok (.iadd, 1) := by decide +kernel
theorem dX12_pop_37 : decode cX12_pop 37 = .ok (.iaload, 1) := by decide +kernel
theorem dX12_pop_38 : decode cX12_pop 38 = .ok (.ireturn, 1) := by decide +kernel
def wp_X12_pop : List Cond := .code yX12_pop cX12_pop 2 (some .int) :: (([.fieldLink RX12 36 "SteadyMachineModel" "top" "I", .fieldLink RX12 44 "SteadyMachineModel" "now" "[I", .fieldLink RX12 10 "SteadyMachineModel" "image" "LSteadyMachineModel$Image;"] ++ wsX110) ++ wsX120)
theorem wq_X12_pop : wp_X12_pop.all goodWord = true := wa_c rfl (wa_a (wa_a (by decide +kernel) uq_X11) uq_X12)
theorem wt_X12_pop : GoodIn lw_tbl wp_X12_pop := wm_c (List.mem_of_getElem? (i := 1326) (by decide +kernel)) rfl (wm_a (wm_a (goodIn_r _ [1495, 1494, 1490] (by decide +kernel) (by decide +kernel)) ut_X11) ut_X12)
theorem wi_X12_pop_X11 : ∀ w ∈ wsX110, w ∈ wp_X12_pop := fun w h => List.mem_cons_of_mem _ (List.mem_append_left _ (List.mem_append_right _ h))
theorem wi_X12_pop_X12 : ∀ w ∈ wsX120, w ∈ wp_X12_pop := fun w h => List.mem_cons_of_mem _ (List.mem_append_right _ h)
set_option maxHeartbeats 4000000 in
set_option maxRecDepth 100000 in
theorem c_X12_pop (l : Launch) (D : va_G) (sz t0 : Nat) (σ : sm_S) (α : sm_A) (p1 : Int32) (K : Int32 → sm_S → Prop) (hF : mp_X12_pop σ p1 K) : Met l yX12_pop wp_X12_pop { frames := 0, cells := 0, slots := 0, locals := 0 } (sm_P sm_wM sm_tM 40 D sz t0 σ α [.ref (α.1 1), .int p1]) (va_Qi K (sm_B sm_wM D α) (sm_a α 40 sz)) 0 0 (sm_a α 40 sz) := by
  refine Met.ofW (cc := cX12_pop) (maxL := 2) (ret := (some .int)) (by decide) rfl ?_
  intro p e s m args below meth c s₁ B hml hv
  obtain ⟨rfl, hsz, hP, hK, hD0, hE⟩ := hv
  have hx := B.exec
  have hb := B.bytes
  have hr := B.returns
  have hts := atoms_spec (ws := wp_X12_pop) B.pre
  have hown : s.vm.findClass RX12 = some m.cls := findClass_of_methodNamed B.named
  have hlocks := B.notSynchronized
  subst hsz
  have hD : sm_D (sm_a α 40 s.heap.size) α 40 := hD0.own
  have hA : ∀ q : Nat, s.heap.size ≤ q → sm_a α 40 s.heap.size q := fun q h => Or.inr h
  generalize hAe : sm_a α 40 s.heap.size = A at hD hA hE ⊢
  have hS : va_S A s.heap s.heap [] := va_S.rf
  have in_X11 : ∀ w ∈ wsX110, w ∈ wp_X12_pop := wi_X12_pop_X11
  have in_X12 : ∀ w ∈ wsX120, w ∈ wp_X12_pop := wi_X12_pop_X12
  have k_0 := hts (.fieldLink RX12 36 "SteadyMachineModel" "top" "I") (by decide +kernel)
  have k_1 := hts (.fieldLink RX12 44 "SteadyMachineModel" "now" "[I") (by decide +kernel)
  have k_2 := hts (.fieldLink RX12 10 "SteadyMachineModel" "image" "LSteadyMachineModel$Image;") (by decide +kernel)
  have hl := lv_entry ([.ref (α.1 1), .int p1]) (n := 2) (Nat.le_of_ble_eq_true rfl)
  rw [lg_entry_eq]
  generalize (lg_sl ([.ref (α.1 1), .int p1]) ++ List.replicate (2 - (lg_sl ([.ref (α.1 1), .int p1])).length) Slot.unset).toArray = ls at hl ⊢
  have hl : lv_has ls 2 [(0, .ref (α.1 1)), (1, .int p1)] := hl
  unfold mp_X12_pop at hF
  revert hP hS
  generalize hLo : ([] : List Loc) = locs
  suffices h9 : ∀ (H : Heap) (locs : List Loc), va_P D vwCl (sm_wM σ α) H → va_S A s.heap H locs → W p l e (headSpec wp_X12_pop { frames := 0, cells := 0, slots := 0, locals := 0 }).room s m ([.ref (α.1 1), .int p1] : List Value).toArray below meth c H locs 0 0 (MQ below (va_Qi K (sm_B sm_wM D α) A) ([.ref (α.1 1), .int p1] : List Value).toArray s 0 0 A) (F0 m 0 ls []) from fun hP hS => h9 s.heap locs hP hS
  intro H locs hP hS
  refine lv_aload_n hx hb dX12_pop_0 rfl (lv_at hl 0 rfl) ?_
  refine va_get (D := D) (ci := 12) (v := .int (σ.1 9)) (C := RX12) (T := TX12) (N := 42) hx hb hts in_X12 hown hK hP 1 (sm_gX12 σ α) rfl 5 (by decide) k_0 (fun _ h9 => h9) rfl dX12_pop_1 ?_
  refine lv_if_ne (tgt := 9) hx hb dX12_pop_4 (by decide) (fun h1 => ?_) (fun h1 => ?_)
  · replace hF := hF.1 h1
    refine lv_aload_n hx hb dX12_pop_9 rfl (lv_at hl 0 rfl) ?_
    refine lv_dup hx hb dX12_pop_10 rfl ?_
    refine va_get (D := D) (ci := 12) (v := .int (σ.1 9)) (C := RX12) (T := TX12) (N := 42) hx hb hts in_X12 hown hK hP 1 (sm_gX12 σ α) rfl 5 (by decide) k_0 (fun _ h9 => h9) rfl dX12_pop_11 ?_
    refine lv_iconst (v := 1) hx hb dX12_pop_14 (by decide) ?_
    refine lv_isub hx hb dX12_pop_15 ?_
    refine va_put (D := D) (ci := 12) (v := .int ((σ.1 9) - 1)) (ty := .int) (C := RX12) (T := TX12) (N := 42) hx hb hts in_X12 tyX12 tyX12_ok nmX12 hown hK hP (hD.to (sm_wM_m _ _)) hS 1 (sm_gX12 σ α) rfl 5 (by decide) k_0 (fun _ h9 => h9) rfl (by decide +kernel) rfl rfl (Nat.le_of_ble_eq_true rfl) dX12_pop_16 (fun H locs hP _ hS => ?_)
    rw [sm_iM9] at hP
    obtain ⟨σ2, eσ2⟩ : ∃ x : sm_S, x = sm_i σ 9 ((σ.1 9) - 1) := ⟨_, rfl⟩
    replace hF := hF σ2 eσ2
    rw [← eσ2] at hP
    refine lv_aload_n hx hb dX12_pop_19 rfl (lv_at hl 0 rfl) ?_
    refine va_get (D := D) (ci := 12) (v := .ref (α.1 24)) (C := RX12) (T := TX12) (N := 42) hx hb hts in_X12 hown hK hP 1 (sm_gX12 σ2 α) rfl 4 (by decide) k_1 (fun _ h9 => h9) rfl dX12_pop_20 ?_
    refine lv_aload_n hx hb dX12_pop_23 rfl (lv_at hl 0 rfl) ?_
    refine va_get (D := D) (ci := 12) (v := .ref (α.1 0)) (C := RX12) (T := TX12) (N := 42) hx hb hts in_X12 hown hK hP 1 (sm_gX12 σ2 α) rfl 0 (by decide) k_2 (fun _ h9 => h9) rfl dX12_pop_24 ?_
    refine va_getN (D := D) (ci := 11) (v := .ref (α.1 15)) (C := RX11) (T := TX11) (N := 28) hx hb hts in_X11 hown hK hP 0 (sm_gX11 σ2 α) rfl 20 (by decide) (va_Nw.use rfl (hE.1 (.fieldLinkNest "SteadyMachineModel" 27 "SteadyMachineModel$Image" "locals" "[I" "SteadyMachineModel") (by decide +kernel))) (fun _ h9 => h9) rfl dX12_pop_27 ?_
    refine lv_iload_n hx hb dX12_pop_30 rfl (lv_at hl 1 rfl) ?_
    obtain ⟨h3, hF⟩ := hF
    refine va_iald (n := (σ2.2.2.1 15)) (f := (σ2.2.2.2.1 15)) hx hb hK hP 15 13 (sm_aM15 σ2 α) (sm_yM15 α) h3 dX12_pop_31 ?_
    refine lv_aload_n hx hb dX12_pop_32 rfl (lv_at hl 0 rfl) ?_
    refine va_get (D := D) (ci := 12) (v := .int (σ2.1 9)) (C := RX12) (T := TX12) (N := 42) hx hb hts in_X12 hown hK hP 1 (sm_gX12 σ2 α) rfl 5 (by decide) k_0 (fun _ h9 => h9) rfl dX12_pop_33 ?_
    refine lv_iadd hx hb dX12_pop_36 ?_
    obtain ⟨h4, hF⟩ := hF
    refine va_iald (n := (σ2.2.2.1 24)) (f := (σ2.2.2.2.1 24)) hx hb hK hP 24 22 (sm_aM24 σ2 α) (sm_yM24 α) h4 dX12_pop_37 ?_
    exact W.iret (v := ((σ2.2.2.2.1 24) (((σ2.2.2.2.1 15) p1.toNatClampNeg) + (σ2.1 9)).toNatClampNeg)) hx hb hr (fun t ht hW => ⟨⟨((σ2.2.2.2.1 24) (((σ2.2.2.2.1 15) p1.toNatClampNeg) + (σ2.1 9)).toNatClampNeg), σ2, rfl, hF, (by unfold sm_B; rw [ht]; exact hP)⟩, hS.F ht⟩) hS.2.2 dX12_pop_38
  · replace hF := hF.2 h1
    refine lv_iconst (v := -1) hx hb dX12_pop_7 (by decide) ?_
    exact W.iret (v := (-1)) hx hb hr (fun t ht hW => ⟨⟨(-1), σ, rfl, hF, (by unfold sm_B; rw [ht]; exact hP)⟩, hS.F ht⟩) hS.2.2 dX12_pop_8
theorem dX12_popInto_0 : decode cX12_popInto 0 = .ok (.aload_n 0, 1) := by decide +kernel
theorem dX12_popInto_1 : decode cX12_popInto 1 = .ok (.iload_n 1, 1) := by decide +kernel
theorem dX12_popInto_2 : decode cX12_popInto 2 = .ok (.invokevirtual 61, 3) := by decide +kernel
theorem dX12_popInto_5 : decode cX12_popInto 5 = .ok (.istore_n 3, 1) := by decide +kernel
theorem dX12_popInto_6 : decode cX12_popInto 6 = .ok (.iload_n 3, 1) := by decide +kernel
theorem dX12_popInto_7 : decode cX12_popInto 7 = .ok (.iconst (-1), 1) := by decide +kernel
theorem dX12_popInto_8 : decode cX12_popInto 8 = .ok (.if_icmp .eq 16, 3) := by decide +kernel
theorem dX12_popInto_11 : decode cX12_popInto 11 = .ok (.aload_n 0, 1) := by decide +kernel
theorem dX12_popInto_12 : decode cX12_popInto 12 = .ok (.iload_n 3, 1) := by decide +kernel
theorem dX12_popInto_13 : decode cX12_popInto 13 = .ok (.iload_n 2, 1) := by decide +kernel
theorem dX12_popInto_14 : decode cX12_popInto 14 = .ok (.invokevirtual 65, 3) := by decide +kernel
theorem dX12_popInto_17 : decode cX12_popInto 17 = .ok (.ifCond .eq 7, 3) := by decide +kernel
theorem dX12_popInto_20 : decode cX12_popInto 20 = .ok (.iconst 1, 1) := by decide +kernel
theorem dX12_popInto_21 : decode cX12_popInto 21 = .ok (.goto 4, 3) := by decide +kernel
theorem dX12_popInto_24 : decode cX12_popInto 24 = .ok (.iconst 0, 1) := by decide +kernel
theorem dX12_popInto_25 : decode cX12_popInto 25 = .ok (.ireturn, 1) := by decide +kernel
def wp_X12_popInto : List Cond := .code yX12_popInto cX12_popInto 4 (some .boolean) :: (([] ++ (wsV RX12 61 RX12 yX12_pop wp_X12_pop)) ++ (wsV RX12 65 RX12 yX12_goes wp_X12_goes))
theorem wq_X12_popInto : wp_X12_popInto.all goodWord = true := wa_c rfl (wa_a (wa_a (by decide +kernel) (wa_V wq_X12_pop)) (wa_V wq_X12_goes))
theorem wt_X12_popInto : GoodIn lw_tbl wp_X12_popInto := wm_c (List.mem_of_getElem? (i := 1349) (by decide +kernel)) rfl (wm_a (wm_a (goodIn_r _ [] (by decide +kernel) (by decide +kernel)) (wm_a (goodIn_r _ [1323, 1325, 93, 147] (by decide +kernel) (by decide +kernel)) wt_X12_pop)) (wm_a (goodIn_r _ [1338, 1340, 96, 147] (by decide +kernel) (by decide +kernel)) wt_X12_goes))
theorem wg_X12_popInto_X12_pop_61 : GoodIn wp_X12_popInto (wsV RX12 61 RX12 yX12_pop wp_X12_pop) := goodIn_sub (fun w h => List.mem_cons_of_mem _ (List.mem_append_left _ (List.mem_append_right _ h))) (wa_V wq_X12_pop)
theorem wg_X12_popInto_X12_goes_65 : GoodIn wp_X12_popInto (wsV RX12 65 RX12 yX12_goes wp_X12_goes) := goodIn_sub (fun w h => List.mem_cons_of_mem _ (List.mem_append_right _ h)) (wa_V wq_X12_goes)
set_option maxHeartbeats 4000000 in
set_option maxRecDepth 100000 in
theorem c_X12_popInto (l : Launch) (D : va_G) (sz t0 : Nat) (σ : sm_S) (α : sm_A) (p1 : Int32) (p2 : Int32) (K : Int32 → sm_S → Prop) (hF : mp_X12_popInto σ p1 p2 K) : Met l yX12_popInto wp_X12_popInto { frames := 3, cells := 0, slots := 0, locals := 66 } (sm_P sm_wM sm_tM 40 D sz t0 σ α [.ref (α.1 1), .int p1, .int p2]) (va_Qi K (sm_B sm_wM D α) (sm_a α 40 sz)) 0 0 (sm_a α 40 sz) := by
  refine Met.ofW (cc := cX12_popInto) (maxL := 4) (ret := (some .boolean)) (by decide) rfl ?_
  intro p e s m args below meth c s₁ B hml hv
  obtain ⟨rfl, hsz, hP, hK, hD0, hE⟩ := hv
  have hx := B.exec
  have hb := B.bytes
  have hr := B.returns
  have hts := atoms_spec (ws := wp_X12_popInto) B.pre
  have hown : s.vm.findClass RX12 = some m.cls := findClass_of_methodNamed B.named
  have hlocks := B.notSynchronized
  subst hsz
  have hD : sm_D (sm_a α 40 s.heap.size) α 40 := hD0.own
  have hA : ∀ q : Nat, s.heap.size ≤ q → sm_a α 40 s.heap.size q := fun q h => Or.inr h
  generalize hAe : sm_a α 40 s.heap.size = A at hD hA hE ⊢
  have hS : va_S A s.heap s.heap [] := va_S.rf
  have hl := lv_entry ([.ref (α.1 1), .int p1, .int p2]) (n := 4) (Nat.le_of_ble_eq_true rfl)
  rw [lg_entry_eq]
  generalize (lg_sl ([.ref (α.1 1), .int p1, .int p2]) ++ List.replicate (4 - (lg_sl ([.ref (α.1 1), .int p1, .int p2])).length) Slot.unset).toArray = ls at hl ⊢
  have hl : lv_has ls 4 [(0, .ref (α.1 1)), (1, .int p1), (2, .int p2)] := hl
  have B25 : ∀ (σ : sm_S) (y0 : Int32), mp_X12_popInto_25 K σ y0 → sm_J p l e (headSpec wp_X12_popInto { frames := 3, cells := 0, slots := 0, locals := 66 }).room s m ([.ref (α.1 1), .int p1, .int p2] : List Value).toArray below meth c (MQ below (va_Qi K (sm_B sm_wM D α) A) ([.ref (α.1 1), .int p1, .int p2] : List Value).toArray s 0 0 A) D A 4 (sm_wM σ α) 25 [] [.int y0] := by
    intro σ y0 hF H locs ls hP hS hl
    unfold mp_X12_popInto_25 at hF
    obtain ⟨h1, hF⟩ := hF
    exact W.zret (v := y0) hx hb hr h1.1 (fun t ht hW => ⟨⟨y0, σ, rfl, hF, (by unfold sm_B; rw [ht]; exact hP)⟩, hS.F ht⟩) hS.2.2 dX12_popInto_25
  have B24 : ∀ (σ : sm_S), mp_X12_popInto_24 K σ → sm_J p l e (headSpec wp_X12_popInto { frames := 3, cells := 0, slots := 0, locals := 66 }).room s m ([.ref (α.1 1), .int p1, .int p2] : List Value).toArray below meth c (MQ below (va_Qi K (sm_B sm_wM D α) A) ([.ref (α.1 1), .int p1, .int p2] : List Value).toArray s 0 0 A) D A 4 (sm_wM σ α) 24 [] [] := by
    intro σ hF H locs ls hP hS hl
    unfold mp_X12_popInto_24 at hF
    refine lv_iconst (v := 0) hx hb dX12_popInto_24 (by decide) ?_
    exact B25 σ 0 hF H locs ls hP hS (lv_sub hl [] rfl)
  unfold mp_X12_popInto at hF
  revert hP hS
  generalize hLo : ([] : List Loc) = locs
  suffices h9 : ∀ (H : Heap) (locs : List Loc), va_P D vwCl (sm_wM σ α) H → va_S A s.heap H locs → W p l e (headSpec wp_X12_popInto { frames := 3, cells := 0, slots := 0, locals := 66 }).room s m ([.ref (α.1 1), .int p1, .int p2] : List Value).toArray below meth c H locs 0 0 (MQ below (va_Qi K (sm_B sm_wM D α) A) ([.ref (α.1 1), .int p1, .int p2] : List Value).toArray s 0 0 A) (F0 m 0 ls []) from fun hP hS => h9 s.heap locs hP hS
  intro H locs hP hS
  refine lv_aload_n hx hb dX12_popInto_0 rfl (lv_at hl 0 rfl) ?_
  refine lv_iload_n hx hb dX12_popInto_1 rfl (lv_at hl 1 rfl) ?_
  refine sm_vi (As := [.int p1]) (rest := []) hP hK hD hE hS hA ⟨hx, hb, hml, hown, hts⟩ hl.1 (c_X12_pop l D H.size t0 σ α p1 _ hF) (cwV 1 hts wg_X12_popInto_X12_pop_61 rfl rfl rfl (by decide +kernel) ⟨Nat.le_of_ble_eq_true rfl, Nat.le_of_ble_eq_true rfl⟩) (va_recv hK hP (ci := 12) (q0 := 1) rfl (sm_gX12 σ α)) rfl rfl (Nat.le_of_ble_eq_true rfl) dX12_popInto_2 ⟨Nat.zero_le _, Nat.zero_le _⟩ (fun r3 σ2 H locs hF hP hS => ?_)
  refine lv_istore_n (lv' := [(3, .int r3), (0, .ref (α.1 1)), (1, .int p1), (2, .int p2)]) hx hb dX12_popInto_5 rfl hl (by decide) rfl (fun ls hl => ?_)
  refine lv_iload_n hx hb dX12_popInto_6 rfl (lv_at hl 0 rfl) ?_
  refine lv_iconst (v := -1) hx hb dX12_popInto_7 (by decide) ?_
  refine lv_icmp_eq (tgt := 24) hx hb dX12_popInto_8 (by decide) (fun h4 => ?_) (fun h4 => ?_)
  · replace hF := hF.1 h4
    exact B24 σ2 hF H locs ls hP hS (lv_sub hl [] rfl)
  · replace hF := hF.2 h4
    refine lv_aload_n hx hb dX12_popInto_11 rfl (lv_at hl 1 rfl) ?_
    refine lv_iload_n hx hb dX12_popInto_12 rfl (lv_at hl 0 rfl) ?_
    refine lv_iload_n hx hb dX12_popInto_13 rfl (lv_at hl 3 rfl) ?_
    refine sm_vi (As := [.int r3, .int p2]) (rest := []) hP hK hD hE hS hA ⟨hx, hb, hml, hown, hts⟩ hl.1 (c_X12_goes l D H.size t0 σ2 α r3 p2 _ hF) (cwV 2 hts wg_X12_popInto_X12_goes_65 rfl rfl rfl (by decide +kernel) ⟨Nat.le_of_ble_eq_true rfl, Nat.le_of_ble_eq_true rfl⟩) (va_recv hK hP (ci := 12) (q0 := 1) rfl (sm_gX12 σ2 α)) rfl rfl (Nat.le_of_ble_eq_true rfl) dX12_popInto_14 ⟨Nat.zero_le _, Nat.zero_le _⟩ (fun r6 σ5 H locs hF hP hS => ?_)
    refine lv_if_eq (tgt := 24) hx hb dX12_popInto_17 (by decide) (fun h7 => ?_) (fun h7 => ?_)
    · replace hF := hF.1 h7
      exact B24 σ5 hF H locs ls hP hS (lv_sub hl [] rfl)
    · replace hF := hF.2 h7
      refine lv_iconst (v := 1) hx hb dX12_popInto_20 (by decide) ?_
      refine lv_goto (tgt := 25) hx hb dX12_popInto_21 (by decide) ?_
      exact B25 σ5 1 hF H locs ls hP hS (lv_sub hl [] rfl)
theorem dX12_popReference_0 : decode cX12_popReference 0 = .ok (.aload_n 0, 1) := by decide +kernel
theorem dX12_popReference_1 : decode cX12_popReference 1 = .ok (.iload_n 1, 1) := by decide +kernel
theorem dX12_popReference_2 : decode cX12_popReference 2 = .ok (.invokevirtual 61, 3) := by decide +kernel
theorem dX12_popReference_5 : decode cX12_popReference 5 = .ok (.istore_n 2, 1) := by decide +kernel
theorem dX12_popReference_6 : decode cX12_popReference 6 = .ok (.iload_n 2, 1) := by decide +kernel
theorem dX12_popReference_7 : decode cX12_popReference 7 = .ok (.iconst (-1), 1) := by decide +kernel
theorem dX12_popReference_8 : decode cX12_popReference 8 = .ok (.if_icmp .eq 14, 3) := by decide +kernel
theorem dX12_popReference_11 : decode cX12_popReference 11 = .ok (.iload_n 2, 1) := by decide +kernel
theorem dX12_popReference_12 : decode cX12_popReference 12 = .ok (.invokestatic 3, 3) := by decide +kernel
theorem dX12_popReference_15 : decode cX12_popReference 15 = .ok (.ifCond .eq 7, 3) := by decide +kernel
theorem dX12_popReference_18 : decode cX12_popReference 18 = .ok (.iconst 1, 1) := by decide +kernel
theorem dX12_popReference_19 : decode cX12_popReference 19 = .ok (.goto 4, 3) := by decide +kernel
theorem dX12_popReference_22 : decode cX12_popReference 22 = .ok (.iconst 0, 1) := by decide +kernel
theorem dX12_popReference_23 : decode cX12_popReference 23 = .ok (.ireturn, 1) := by decide +kernel
def wp_X12_popReference : List Cond := .code yX12_popReference cX12_popReference 3 (some .boolean) :: (([] ++ (wsV RX12 61 RX12 yX12_pop wp_X12_pop)) ++ (va_wsS RX12 3 yX12_isReference wp_X12_isReference))
theorem wq_X12_popReference : wp_X12_popReference.all goodWord = true := wa_c rfl (wa_a (wa_a (by decide +kernel) (wa_V wq_X12_pop)) (wa_S wq_X12_isReference))
theorem wt_X12_popReference : GoodIn lw_tbl wp_X12_popReference := wm_c (List.mem_of_getElem? (i := 1345) (by decide +kernel)) rfl (wm_a (wm_a (goodIn_r _ [] (by decide +kernel) (by decide +kernel)) (wm_a (goodIn_r _ [1323, 1325, 93, 147] (by decide +kernel) (by decide +kernel)) wt_X12_pop)) (wm_a (goodIn_r _ [1288, 1289, 147] (by decide +kernel) (by decide +kernel)) wt_X12_isReference))
theorem wg_X12_popReference_X12_pop_61 : GoodIn wp_X12_popReference (wsV RX12 61 RX12 yX12_pop wp_X12_pop) := goodIn_sub (fun w h => List.mem_cons_of_mem _ (List.mem_append_left _ (List.mem_append_right _ h))) (wa_V wq_X12_pop)
theorem wg_X12_popReference_X12_isReference_3 : GoodIn wp_X12_popReference (va_wsS RX12 3 yX12_isReference wp_X12_isReference) := goodIn_sub (fun w h => List.mem_cons_of_mem _ (List.mem_append_right _ h)) (wa_S wq_X12_isReference)
set_option maxHeartbeats 4000000 in
set_option maxRecDepth 100000 in
theorem c_X12_popReference (l : Launch) (D : va_G) (sz t0 : Nat) (σ : sm_S) (α : sm_A) (p1 : Int32) (K : Int32 → sm_S → Prop) (hF : mp_X12_popReference σ p1 K) : Met l yX12_popReference wp_X12_popReference { frames := 1, cells := 0, slots := 0, locals := 21 } (sm_P sm_wM sm_tM 40 D sz t0 σ α [.ref (α.1 1), .int p1]) (va_Qi K (sm_B sm_wM D α) (sm_a α 40 sz)) 0 0 (sm_a α 40 sz) := by
  refine Met.ofW (cc := cX12_popReference) (maxL := 3) (ret := (some .boolean)) (by decide) rfl ?_
  intro p e s m args below meth c s₁ B hml hv
  obtain ⟨rfl, hsz, hP, hK, hD0, hE⟩ := hv
  have hx := B.exec
  have hb := B.bytes
  have hr := B.returns
  have hts := atoms_spec (ws := wp_X12_popReference) B.pre
  have hown : s.vm.findClass RX12 = some m.cls := findClass_of_methodNamed B.named
  have hlocks := B.notSynchronized
  subst hsz
  have hD : sm_D (sm_a α 40 s.heap.size) α 40 := hD0.own
  have hA : ∀ q : Nat, s.heap.size ≤ q → sm_a α 40 s.heap.size q := fun q h => Or.inr h
  generalize hAe : sm_a α 40 s.heap.size = A at hD hA hE ⊢
  have hS : va_S A s.heap s.heap [] := va_S.rf
  have hl := lv_entry ([.ref (α.1 1), .int p1]) (n := 3) (Nat.le_of_ble_eq_true rfl)
  rw [lg_entry_eq]
  generalize (lg_sl ([.ref (α.1 1), .int p1]) ++ List.replicate (3 - (lg_sl ([.ref (α.1 1), .int p1])).length) Slot.unset).toArray = ls at hl ⊢
  have hl : lv_has ls 3 [(0, .ref (α.1 1)), (1, .int p1)] := hl
  have B23 : ∀ (σ : sm_S) (y0 : Int32), mp_X12_popReference_23 K σ y0 → sm_J p l e (headSpec wp_X12_popReference { frames := 1, cells := 0, slots := 0, locals := 21 }).room s m ([.ref (α.1 1), .int p1] : List Value).toArray below meth c (MQ below (va_Qi K (sm_B sm_wM D α) A) ([.ref (α.1 1), .int p1] : List Value).toArray s 0 0 A) D A 3 (sm_wM σ α) 23 [] [.int y0] := by
    intro σ y0 hF H locs ls hP hS hl
    unfold mp_X12_popReference_23 at hF
    obtain ⟨h1, hF⟩ := hF
    exact W.zret (v := y0) hx hb hr h1.1 (fun t ht hW => ⟨⟨y0, σ, rfl, hF, (by unfold sm_B; rw [ht]; exact hP)⟩, hS.F ht⟩) hS.2.2 dX12_popReference_23
  have B22 : ∀ (σ : sm_S), mp_X12_popReference_22 K σ → sm_J p l e (headSpec wp_X12_popReference { frames := 1, cells := 0, slots := 0, locals := 21 }).room s m ([.ref (α.1 1), .int p1] : List Value).toArray below meth c (MQ below (va_Qi K (sm_B sm_wM D α) A) ([.ref (α.1 1), .int p1] : List Value).toArray s 0 0 A) D A 3 (sm_wM σ α) 22 [] [] := by
    intro σ hF H locs ls hP hS hl
    unfold mp_X12_popReference_22 at hF
    refine lv_iconst (v := 0) hx hb dX12_popReference_22 (by decide) ?_
    exact B23 σ 0 hF H locs ls hP hS (lv_sub hl [] rfl)
  unfold mp_X12_popReference at hF
  revert hP hS
  generalize hLo : ([] : List Loc) = locs
  suffices h9 : ∀ (H : Heap) (locs : List Loc), va_P D vwCl (sm_wM σ α) H → va_S A s.heap H locs → W p l e (headSpec wp_X12_popReference { frames := 1, cells := 0, slots := 0, locals := 21 }).room s m ([.ref (α.1 1), .int p1] : List Value).toArray below meth c H locs 0 0 (MQ below (va_Qi K (sm_B sm_wM D α) A) ([.ref (α.1 1), .int p1] : List Value).toArray s 0 0 A) (F0 m 0 ls []) from fun hP hS => h9 s.heap locs hP hS
  intro H locs hP hS
  refine lv_aload_n hx hb dX12_popReference_0 rfl (lv_at hl 0 rfl) ?_
  refine lv_iload_n hx hb dX12_popReference_1 rfl (lv_at hl 1 rfl) ?_
  refine sm_vi (As := [.int p1]) (rest := []) hP hK hD hE hS hA ⟨hx, hb, hml, hown, hts⟩ hl.1 (c_X12_pop l D H.size t0 σ α p1 _ hF) (cwV 1 hts wg_X12_popReference_X12_pop_61 rfl rfl rfl (by decide +kernel) ⟨Nat.le_of_ble_eq_true rfl, Nat.le_of_ble_eq_true rfl⟩) (va_recv hK hP (ci := 12) (q0 := 1) rfl (sm_gX12 σ α)) rfl rfl (Nat.le_of_ble_eq_true rfl) dX12_popReference_2 ⟨Nat.zero_le _, Nat.zero_le _⟩ (fun r3 σ2 H locs hF hP hS => ?_)
  refine lv_istore_n (lv' := [(2, .int r3), (0, .ref (α.1 1)), (1, .int p1)]) hx hb dX12_popReference_5 rfl hl (by decide) rfl (fun ls hl => ?_)
  refine lv_iload_n hx hb dX12_popReference_6 rfl (lv_at hl 0 rfl) ?_
  refine lv_iconst (v := -1) hx hb dX12_popReference_7 (by decide) ?_
  refine lv_icmp_eq (tgt := 22) hx hb dX12_popReference_8 (by decide) (fun h4 => ?_) (fun h4 => ?_)
  · replace hF := hF.1 h4
    exact B22 σ2 hF H locs ls hP hS (lv_sub hl [] rfl)
  · replace hF := hF.2 h4
    refine lv_iload_n hx hb dX12_popReference_11 rfl (lv_at hl 0 rfl) ?_
    refine sm_si (As := [.int r3]) (rest := []) hP hK hD hE hS hA ⟨hx, hb, hml, hown, hts⟩ hl.1 (c_X12_isReference l D H.size t0 σ2 α r3 _ hF) (va_cwS 1 hts wg_X12_popReference_X12_isReference_3 rfl rfl rfl (by decide +kernel) ⟨Nat.le_of_ble_eq_true rfl, Nat.le_of_ble_eq_true rfl⟩) rfl rfl (Nat.le_of_ble_eq_true rfl) dX12_popReference_12 ⟨Nat.zero_le _, Nat.zero_le _⟩ (fun r6 σ5 H locs hF hP hS => ?_)
    refine lv_if_eq (tgt := 22) hx hb dX12_popReference_15 (by decide) (fun h7 => ?_) (fun h7 => ?_)
    · replace hF := hF.1 h7
      exact B22 σ5 hF H locs ls hP hS (lv_sub hl [] rfl)
    · replace hF := hF.2 h7
      refine lv_iconst (v := 1) hx hb dX12_popReference_18 (by decide) ?_
      refine lv_goto (tgt := 23) hx hb dX12_popReference_19 (by decide) ?_
      exact B23 σ5 1 hF H locs ls hP hS (lv_sub hl [] rfl)
theorem dX12_popInts_0 : decode cX12_popInts 0 = .ok (.iconst 0, 1) := by decide +kernel
theorem dX12_popInts_1 : decode cX12_popInts 1 = .ok (.istore_n 3, 1) := by decide +kernel
theorem dX12_popInts_2 : decode cX12_popInts 2 = .ok (.iload_n 3, 1) := by decide +kernel
theorem dX12_popInts_3 : decode cX12_popInts 3 = .ok (.iload_n 2, 1) := by decide +kernel
theorem dX12_popInts_4 : decode cX12_popInts 4 = .ok (.if_icmp .ge 19, 3) := by decide +kernel
theorem dX12_popInts_7 : decode cX12_popInts 7 = .ok (.aload_n 0, 1) := by decide +kernel
theorem dX12_popInts_8 : decode cX12_popInts 8 = .ok (.iload_n 1, 1) := by decide +kernel
theorem dX12_popInts_9 : decode cX12_popInts 9 = .ok (.invokevirtual 61, 3) := by decide +kernel
theorem dX12_popInts_12 : decode cX12_popInts 12 = .ok (.ifCond .eq 5, 3) := by decide +kernel
theorem dX12_popInts_15 : decode cX12_popInts 15 = .ok (.iconst 0, 1) := by decide +kernel
theorem dX12_popInts_16 : decode cX12_popInts 16 = .ok (.ireturn, 1) := by decide +kernel
theorem dX12_popInts_17 : decode cX12_popInts 17 = .ok (.iinc 3 1, 3) := by decide +kernel
theorem dX12_popInts_20 : decode cX12_popInts 20 = .ok (.goto (-18), 3) := by decide +kernel
theorem dX12_popInts_23 : decode cX12_popInts 23 = .ok (.iconst 1, 1) := by decide +kernel
theorem dX12_popInts_24 : decode cX12_popInts 24 = .ok (.ireturn, 1) := by decide +kernel
def wp_X12_popInts : List Cond := .code yX12_popInts cX12_popInts 4 (some .boolean) :: ([] ++ (wsV RX12 61 RX12 yX12_pop wp_X12_pop))
theorem wq_X12_popInts : wp_X12_popInts.all goodWord = true := wa_c rfl (wa_a (by decide +kernel) (wa_V wq_X12_pop))
theorem wt_X12_popInts : GoodIn lw_tbl wp_X12_popInts := wm_c (List.mem_of_getElem? (i := 1334) (by decide +kernel)) rfl (wm_a (goodIn_r _ [] (by decide +kernel) (by decide +kernel)) (wm_a (goodIn_r _ [1323, 1325, 93, 147] (by decide +kernel) (by decide +kernel)) wt_X12_pop))
theorem wg_X12_popInts_X12_pop_61 : GoodIn wp_X12_popInts (wsV RX12 61 RX12 yX12_pop wp_X12_pop) := goodIn_sub (fun w h => List.mem_cons_of_mem _ (List.mem_append_right _ h)) (wa_V wq_X12_pop)
set_option maxHeartbeats 4000000 in
set_option maxRecDepth 100000 in
theorem c_X12_popInts (l : Launch) (D : va_G) (sz t0 : Nat) (σ : sm_S) (α : sm_A) (p1 : Int32) (p2 : Int32) (K : Int32 → sm_S → Prop) (hF : mp_X12_popInts σ p1 p2 K) : Met l yX12_popInts wp_X12_popInts { frames := 1, cells := 0, slots := 0, locals := 21 } (sm_P sm_wM sm_tM 40 D sz t0 σ α [.ref (α.1 1), .int p1, .int p2]) (va_Qi K (sm_B sm_wM D α) (sm_a α 40 sz)) 0 0 (sm_a α 40 sz) := by
  refine Met.ofW (cc := cX12_popInts) (maxL := 4) (ret := (some .boolean)) (by decide) rfl ?_
  intro p e s m args below meth c s₁ B hml hv
  obtain ⟨rfl, hsz, hP, hK, hD0, hE⟩ := hv
  have hx := B.exec
  have hb := B.bytes
  have hr := B.returns
  have hts := atoms_spec (ws := wp_X12_popInts) B.pre
  have hown : s.vm.findClass RX12 = some m.cls := findClass_of_methodNamed B.named
  have hlocks := B.notSynchronized
  subst hsz
  have hD : sm_D (sm_a α 40 s.heap.size) α 40 := hD0.own
  have hA : ∀ q : Nat, s.heap.size ≤ q → sm_a α 40 s.heap.size q := fun q h => Or.inr h
  generalize hAe : sm_a α 40 s.heap.size = A at hD hA hE ⊢
  have hS : va_S A s.heap s.heap [] := va_S.rf
  have hl := lv_entry ([.ref (α.1 1), .int p1, .int p2]) (n := 4) (Nat.le_of_ble_eq_true rfl)
  rw [lg_entry_eq]
  generalize (lg_sl ([.ref (α.1 1), .int p1, .int p2]) ++ List.replicate (4 - (lg_sl ([.ref (α.1 1), .int p1, .int p2])).length) Slot.unset).toArray = ls at hl ⊢
  have hl : lv_has ls 4 [(0, .ref (α.1 1)), (1, .int p1), (2, .int p2)] := hl
  have B2 : ∀ (n : Nat) (σ : sm_S) (x1 : Int32) (x2 : Int32) (x3 : Int32), mp_X12_popInts_2 K n σ x1 x2 x3 → sm_J p l e (headSpec wp_X12_popInts { frames := 1, cells := 0, slots := 0, locals := 21 }).room s m ([.ref (α.1 1), .int p1, .int p2] : List Value).toArray below meth c (MQ below (va_Qi K (sm_B sm_wM D α) A) ([.ref (α.1 1), .int p1, .int p2] : List Value).toArray s 0 0 A) D A 4 (sm_wM σ α) 2 [(0, .ref (α.1 1)), (1, .int x1), (2, .int x2), (3, .int x3)] [] := by
    intro n2
    induction n2 with
    | zero =>
      intro σ x1 x2 x3 hF
      exact hF.elim
    | succ n2 ih2 =>
      intro σ x1 x2 x3 hF H locs ls hP hS hl
      unfold mp_X12_popInts_2 at hF
      refine lv_iload_n hx hb dX12_popInts_2 rfl (lv_at hl 3 rfl) ?_
      refine lv_iload_n hx hb dX12_popInts_3 rfl (lv_at hl 2 rfl) ?_
      refine lv_icmp_ge (tgt := 23) hx hb dX12_popInts_4 (by decide) (fun h1 => ?_) (fun h1 => ?_)
      · replace hF := hF.1 h1
        refine lv_iconst (v := 1) hx hb dX12_popInts_23 (by decide) ?_
        exact W.zret (v := 1) hx hb hr sm_z1.1 (fun t ht hW => ⟨⟨1, σ, rfl, hF, (by unfold sm_B; rw [ht]; exact hP)⟩, hS.F ht⟩) hS.2.2 dX12_popInts_24
      · replace hF := hF.2 h1
        refine lv_aload_n hx hb dX12_popInts_7 rfl (lv_at hl 0 rfl) ?_
        refine lv_iload_n hx hb dX12_popInts_8 rfl (lv_at hl 1 rfl) ?_
        refine sm_vi (As := [.int x1]) (rest := []) hP hK hD hE hS hA ⟨hx, hb, hml, hown, hts⟩ hl.1 (c_X12_pop l D H.size t0 σ α x1 _ hF) (cwV 1 hts wg_X12_popInts_X12_pop_61 rfl rfl rfl (by decide +kernel) ⟨Nat.le_of_ble_eq_true rfl, Nat.le_of_ble_eq_true rfl⟩) (va_recv hK hP (ci := 12) (q0 := 1) rfl (sm_gX12 σ α)) rfl rfl (Nat.le_of_ble_eq_true rfl) dX12_popInts_9 ⟨Nat.zero_le _, Nat.zero_le _⟩ (fun r3 σ2 H locs hF hP hS => ?_)
        refine lv_if_eq (tgt := 17) hx hb dX12_popInts_12 (by decide) (fun h4 => ?_) (fun h4 => ?_)
        · replace hF := hF.1 h4
          obtain ⟨v5, ev5⟩ : ∃ y : Int32, y = x3 + 1 := ⟨_, rfl⟩
          replace hF := hF v5 ev5
          refine lv_iinc (v := v5) (lv' := [(3, .int v5), (0, .ref (α.1 1)), (1, .int x1), (2, .int x2)]) hx hb dX12_popInts_17 hl (k := 3) rfl (by rw [ev5]; rfl) (by decide) rfl (fun ls hl => ?_)
          refine lv_goto (tgt := 2) hx hb dX12_popInts_20 (by decide) ?_
          exact ih2 σ2 x1 x2 v5 hF H locs ls hP hS (lv_sub hl [1, 2, 3, 0] rfl)
        · replace hF := hF.2 h4
          refine lv_iconst (v := 0) hx hb dX12_popInts_15 (by decide) ?_
          exact W.zret (v := 0) hx hb hr sm_z0.1 (fun t ht hW => ⟨⟨0, σ2, rfl, hF, (by unfold sm_B; rw [ht]; exact hP)⟩, hS.F ht⟩) hS.2.2 dX12_popInts_16
  unfold mp_X12_popInts at hF
  revert hP hS
  generalize hLo : ([] : List Loc) = locs
  suffices h9 : ∀ (H : Heap) (locs : List Loc), va_P D vwCl (sm_wM σ α) H → va_S A s.heap H locs → W p l e (headSpec wp_X12_popInts { frames := 1, cells := 0, slots := 0, locals := 21 }).room s m ([.ref (α.1 1), .int p1, .int p2] : List Value).toArray below meth c H locs 0 0 (MQ below (va_Qi K (sm_B sm_wM D α) A) ([.ref (α.1 1), .int p1, .int p2] : List Value).toArray s 0 0 A) (F0 m 0 ls []) from fun hP hS => h9 s.heap locs hP hS
  intro H locs hP hS
  refine lv_iconst (v := 0) hx hb dX12_popInts_0 (by decide) ?_
  refine lv_istore_n (lv' := [(3, .int 0), (0, .ref (α.1 1)), (1, .int p1), (2, .int p2)]) hx hb dX12_popInts_1 rfl hl (by decide) rfl (fun ls hl => ?_)
  obtain ⟨n2, hF⟩ := hF
  exact B2 n2 σ p1 p2 0 hF H locs ls hP hS (lv_sub hl [1, 2, 3, 0] rfl)
theorem dX12_popParameters_0 : decode cX12_popParameters 0 = .ok (.aload_n 0, 1) := by decide +kernel
theorem dX12_popParameters_1 : decode cX12_popParameters 1 = .ok (.getfield 10, 3) := by decide +kernel
theorem dX12_popParameters_4 : decode cX12_popParameters 4 = .ok (.getfield 68, 3) := by decide +kernel
theorem dX12_popParameters_7 : decode cX12_popParameters 7 = .ok (.iload_n 2, 1) := by decide +kernel
theorem dX12_popParameters_8 : decode cX12_popParameters 8 = .ok (.iaload, 1) := by decide +kernel
theorem dX12_popParameters_9 : decode cX12_popParameters 9 = .ok (.iconst 1, 1) := by decide +kernel
theorem dX12_popParameters_10 : decode cX12_popParameters 10 = .ok (.isub, 1) := by decide +kernel
theorem dX12_popParameters_11 : decode cX12_popParameters 11 = .ok (.istore 4, 2) := by decide +kernel
theorem dX12_popParameters_13 : decode cX12_popParameters 13 = .ok (.iload 4, 2) := by decide +kernel
theorem dX12_popParameters_15 : decode cX12_popParameters 15 = .ok (.iload_n 3, 1) := by decide +kernel
theorem dX12_popParameters_16 : decode cX12_popParameters 16 = .ok (.if_icmp .lt 34, 3) := by decide +kernel
theorem dX12_popParameters_19 : decode cX12_popParameters 19 = .ok (.aload_n 0, 1) := by decide +kernel
theorem dX12_popParameters_20 : decode cX12_popParameters 20 = .ok (.iload_n 1, 1) := by decide +kernel
theorem dX12_popParameters_21 : decode cX12_popParameters 21 = .ok (.aload_n 0, 1) := by decide +kernel
theorem dX12_popParameters_22 : decode cX12_popParameters 22 = .ok (.getfield 10, 3) := by decide +kernel
theorem dX12_popParameters_25 : decode cX12_popParameters 25 = .ok (.getfield 71, 3) := by decide +kernel
theorem dX12_popParameters_28 : decode cX12_popParameters 28 = .ok (.bipush 8, 2) := by decide +kernel
theorem dX12_popParameters_30 : decode cX12_popParameters 30 = .ok (.iload_n 2, 1) := by decide +kernel
theorem dX12_popParameters_31 : decode cX12_popParameters 31 = .ok (.imul, 1) := by decide +kernel
theorem dX12_popParameters_32 : decode cX12_popParameters 32 = .ok (.iload 4, 2) := by decide +kernel
theorem dX12_popParameters_34 : decode cX12_popParameters 34 = .ok (.iadd, 1) := by decide +kernel
theorem dX12_popParameters_35 : decode cX12_popParameters 35 = .ok (.iaload, 1) := by decide +kernel
theorem dX12_popParameters_36 : decode cX12_popParameters 36 = .ok (.invokevirtual 74, 3) := by decide +kernel
theorem dX12_popParameters_39 : decode cX12_popParameters 39 = .ok (.ifCond .ne 5, 3) := by decide +kernel
theorem dX12_popParameters_42 : decode cX12_popParameters 42 = .ok (.iconst 0, 1) := by decide +kernel
theorem dX12_popParameters_43 : decode cX12_popParameters 43 = .ok (.ireturn, 1) := by decide +kernel
theorem dX12_popParameters_44 : decode cX12_popParameters 44 = .ok (.iinc 4 (-1), 3) := by decide +kernel
theorem dX12_popParameters_47 : decode cX12_popParameters 47 = .ok (.goto (-34), 3) := by decide +kernel
theorem dX12_popParameters_50 : decode cX12_popParameters 50 = .ok (.iconst 1, 1) := by decide +kernel
theorem dX12_popParameters_51 : decode cX12_popParameters 51 = .ok (.ireturn, 1) := by decide +kernel
def wp_X12_popParameters : List Cond := .code yX12_popParameters cX12_popParameters 5 (some .boolean) :: ((([.fieldLink RX12 10 "SteadyMachineModel" "image" "LSteadyMachineModel$Image;"] ++ (wsV RX12 74 RX12 yX12_popInto wp_X12_popInto)) ++ wsX110) ++ wsX120)
theorem wq_X12_popParameters : wp_X12_popParameters.all goodWord = true := wa_c rfl (wa_a (wa_a (wa_a (by decide +kernel) (wa_V wq_X12_popInto)) uq_X11) uq_X12)
theorem wt_X12_popParameters : GoodIn lw_tbl wp_X12_popParameters := wm_c (List.mem_of_getElem? (i := 1353) (by decide +kernel)) rfl (wm_a (wm_a (wm_a (goodIn_r _ [1490] (by decide +kernel) (by decide +kernel)) (wm_a (goodIn_r _ [1346, 1348, 98, 147] (by decide +kernel) (by decide +kernel)) wt_X12_popInto)) ut_X11) ut_X12)
theorem wg_X12_popParameters_X12_popInto_74 : GoodIn wp_X12_popParameters (wsV RX12 74 RX12 yX12_popInto wp_X12_popInto) := goodIn_sub (fun w h => List.mem_cons_of_mem _ (List.mem_append_left _ (List.mem_append_left _ (List.mem_append_right _ h)))) (wa_V wq_X12_popInto)
theorem wi_X12_popParameters_X11 : ∀ w ∈ wsX110, w ∈ wp_X12_popParameters := fun w h => List.mem_cons_of_mem _ (List.mem_append_left _ (List.mem_append_right _ h))
theorem wi_X12_popParameters_X12 : ∀ w ∈ wsX120, w ∈ wp_X12_popParameters := fun w h => List.mem_cons_of_mem _ (List.mem_append_right _ h)
set_option maxHeartbeats 4000000 in
set_option maxRecDepth 100000 in
theorem c_X12_popParameters (l : Launch) (D : va_G) (sz t0 : Nat) (σ : sm_S) (α : sm_A) (p1 : Int32) (p2 : Int32) (p3 : Int32) (K : Int32 → sm_S → Prop) (hF : mp_X12_popParameters σ p1 p2 p3 K) : Met l yX12_popParameters wp_X12_popParameters { frames := 4, cells := 0, slots := 0, locals := 89 } (sm_P sm_wM sm_tM 40 D sz t0 σ α [.ref (α.1 1), .int p1, .int p2, .int p3]) (va_Qi K (sm_B sm_wM D α) (sm_a α 40 sz)) 0 0 (sm_a α 40 sz) := by
  refine Met.ofW (cc := cX12_popParameters) (maxL := 5) (ret := (some .boolean)) (by decide) rfl ?_
  intro p e s m args below meth c s₁ B hml hv
  obtain ⟨rfl, hsz, hP, hK, hD0, hE⟩ := hv
  have hx := B.exec
  have hb := B.bytes
  have hr := B.returns
  have hts := atoms_spec (ws := wp_X12_popParameters) B.pre
  have hown : s.vm.findClass RX12 = some m.cls := findClass_of_methodNamed B.named
  have hlocks := B.notSynchronized
  subst hsz
  have hD : sm_D (sm_a α 40 s.heap.size) α 40 := hD0.own
  have hA : ∀ q : Nat, s.heap.size ≤ q → sm_a α 40 s.heap.size q := fun q h => Or.inr h
  generalize hAe : sm_a α 40 s.heap.size = A at hD hA hE ⊢
  have hS : va_S A s.heap s.heap [] := va_S.rf
  have in_X11 : ∀ w ∈ wsX110, w ∈ wp_X12_popParameters := wi_X12_popParameters_X11
  have in_X12 : ∀ w ∈ wsX120, w ∈ wp_X12_popParameters := wi_X12_popParameters_X12
  have k_0 := hts (.fieldLink RX12 10 "SteadyMachineModel" "image" "LSteadyMachineModel$Image;") (by decide +kernel)
  have hl := lv_entry ([.ref (α.1 1), .int p1, .int p2, .int p3]) (n := 5) (Nat.le_of_ble_eq_true rfl)
  rw [lg_entry_eq]
  generalize (lg_sl ([.ref (α.1 1), .int p1, .int p2, .int p3]) ++ List.replicate (5 - (lg_sl ([.ref (α.1 1), .int p1, .int p2, .int p3])).length) Slot.unset).toArray = ls at hl ⊢
  have hl : lv_has ls 5 [(0, .ref (α.1 1)), (1, .int p1), (2, .int p2), (3, .int p3)] := hl
  have B13 : ∀ (n : Nat) (σ : sm_S) (x1 : Int32) (x2 : Int32) (x3 : Int32) (x4 : Int32), mp_X12_popParameters_13 K n σ x1 x2 x3 x4 → sm_J p l e (headSpec wp_X12_popParameters { frames := 4, cells := 0, slots := 0, locals := 89 }).room s m ([.ref (α.1 1), .int p1, .int p2, .int p3] : List Value).toArray below meth c (MQ below (va_Qi K (sm_B sm_wM D α) A) ([.ref (α.1 1), .int p1, .int p2, .int p3] : List Value).toArray s 0 0 A) D A 5 (sm_wM σ α) 13 [(0, .ref (α.1 1)), (1, .int x1), (2, .int x2), (3, .int x3), (4, .int x4)] [] := by
    intro n13
    induction n13 with
    | zero =>
      intro σ x1 x2 x3 x4 hF
      exact hF.elim
    | succ n13 ih13 =>
      intro σ x1 x2 x3 x4 hF H locs ls hP hS hl
      unfold mp_X12_popParameters_13 at hF
      refine lv_iload hx hb dX12_popParameters_13 (lv_at hl 4 rfl) ?_
      refine lv_iload_n hx hb dX12_popParameters_15 rfl (lv_at hl 3 rfl) ?_
      refine lv_icmp_lt (tgt := 50) hx hb dX12_popParameters_16 (by decide) (fun h1 => ?_) (fun h1 => ?_)
      · replace hF := hF.1 h1
        refine lv_iconst (v := 1) hx hb dX12_popParameters_50 (by decide) ?_
        exact W.zret (v := 1) hx hb hr sm_z1.1 (fun t ht hW => ⟨⟨1, σ, rfl, hF, (by unfold sm_B; rw [ht]; exact hP)⟩, hS.F ht⟩) hS.2.2 dX12_popParameters_51
      · replace hF := hF.2 h1
        refine lv_aload_n hx hb dX12_popParameters_19 rfl (lv_at hl 0 rfl) ?_
        refine lv_iload_n hx hb dX12_popParameters_20 rfl (lv_at hl 1 rfl) ?_
        refine lv_aload_n hx hb dX12_popParameters_21 rfl (lv_at hl 0 rfl) ?_
        refine va_get (D := D) (ci := 12) (v := .ref (α.1 0)) (C := RX12) (T := TX12) (N := 42) hx hb hts in_X12 hown hK hP 1 (sm_gX12 σ α) rfl 0 (by decide) k_0 (fun _ h9 => h9) rfl dX12_popParameters_22 ?_
        refine va_getN (D := D) (ci := 11) (v := .ref (α.1 13)) (C := RX11) (T := TX11) (N := 28) hx hb hts in_X11 hown hK hP 0 (sm_gX11 σ α) rfl 18 (by decide) (va_Nw.use rfl (hE.1 (.fieldLinkNest "SteadyMachineModel" 71 "SteadyMachineModel$Image" "parameterTypes" "[I" "SteadyMachineModel") (by decide +kernel))) (fun _ h9 => h9) rfl dX12_popParameters_25 ?_
        refine lv_bipush (v := 8) hx hb dX12_popParameters_28 (by decide) ?_
        refine lv_iload_n hx hb dX12_popParameters_30 rfl (lv_at hl 2 rfl) ?_
        refine lv_imul hx hb dX12_popParameters_31 ?_
        refine lv_iload hx hb dX12_popParameters_32 (lv_at hl 4 rfl) ?_
        refine lv_iadd hx hb dX12_popParameters_34 ?_
        obtain ⟨h2, hF⟩ := hF
        refine va_iald (n := (σ.2.2.1 13)) (f := (σ.2.2.2.1 13)) hx hb hK hP 13 11 (sm_aM13 σ α) (sm_yM13 α) h2 dX12_popParameters_35 ?_
        refine sm_vi (As := [.int x1, .int ((σ.2.2.2.1 13) ((8 * x2) + x4).toNatClampNeg)]) (rest := []) hP hK hD hE hS hA ⟨hx, hb, hml, hown, hts⟩ hl.1 (c_X12_popInto l D H.size t0 σ α x1 ((σ.2.2.2.1 13) ((8 * x2) + x4).toNatClampNeg) _ hF) (cwV 2 hts wg_X12_popParameters_X12_popInto_74 rfl rfl rfl (by decide +kernel) ⟨Nat.le_of_ble_eq_true rfl, Nat.le_of_ble_eq_true rfl⟩) (va_recv hK hP (ci := 12) (q0 := 1) rfl (sm_gX12 σ α)) rfl rfl (Nat.le_of_ble_eq_true rfl) dX12_popParameters_36 ⟨Nat.zero_le _, Nat.zero_le _⟩ (fun r4 σ3 H locs hF hP hS => ?_)
        refine lv_if_ne (tgt := 44) hx hb dX12_popParameters_39 (by decide) (fun h5 => ?_) (fun h5 => ?_)
        · replace hF := hF.1 h5
          obtain ⟨v6, ev6⟩ : ∃ y : Int32, y = x4 + (-1) := ⟨_, rfl⟩
          replace hF := hF v6 ev6
          refine lv_iinc (v := v6) (lv' := [(4, .int v6), (0, .ref (α.1 1)), (1, .int x1), (2, .int x2), (3, .int x3)]) hx hb dX12_popParameters_44 hl (k := 4) rfl (by rw [ev6]; rfl) (by decide) rfl (fun ls hl => ?_)
          refine lv_goto (tgt := 13) hx hb dX12_popParameters_47 (by decide) ?_
          exact ih13 σ3 x1 x2 x3 v6 hF H locs ls hP hS (lv_sub hl [1, 2, 3, 4, 0] rfl)
        · replace hF := hF.2 h5
          refine lv_iconst (v := 0) hx hb dX12_popParameters_42 (by decide) ?_
          exact W.zret (v := 0) hx hb hr sm_z0.1 (fun t ht hW => ⟨⟨0, σ3, rfl, hF, (by unfold sm_B; rw [ht]; exact hP)⟩, hS.F ht⟩) hS.2.2 dX12_popParameters_43
  unfold mp_X12_popParameters at hF
  revert hP hS
  generalize hLo : ([] : List Loc) = locs
  suffices h9 : ∀ (H : Heap) (locs : List Loc), va_P D vwCl (sm_wM σ α) H → va_S A s.heap H locs → W p l e (headSpec wp_X12_popParameters { frames := 4, cells := 0, slots := 0, locals := 89 }).room s m ([.ref (α.1 1), .int p1, .int p2, .int p3] : List Value).toArray below meth c H locs 0 0 (MQ below (va_Qi K (sm_B sm_wM D α) A) ([.ref (α.1 1), .int p1, .int p2, .int p3] : List Value).toArray s 0 0 A) (F0 m 0 ls []) from fun hP hS => h9 s.heap locs hP hS
  intro H locs hP hS
  refine lv_aload_n hx hb dX12_popParameters_0 rfl (lv_at hl 0 rfl) ?_
  refine va_get (D := D) (ci := 12) (v := .ref (α.1 0)) (C := RX12) (T := TX12) (N := 42) hx hb hts in_X12 hown hK hP 1 (sm_gX12 σ α) rfl 0 (by decide) k_0 (fun _ h9 => h9) rfl dX12_popParameters_1 ?_
  refine va_getN (D := D) (ci := 11) (v := .ref (α.1 12)) (C := RX11) (T := TX11) (N := 28) hx hb hts in_X11 hown hK hP 0 (sm_gX11 σ α) rfl 17 (by decide) (va_Nw.use rfl (hE.1 (.fieldLinkNest "SteadyMachineModel" 68 "SteadyMachineModel$Image" "parameterCounts" "[I" "SteadyMachineModel") (by decide +kernel))) (fun _ h9 => h9) rfl dX12_popParameters_4 ?_
  refine lv_iload_n hx hb dX12_popParameters_7 rfl (lv_at hl 2 rfl) ?_
  obtain ⟨h7, hF⟩ := hF
  refine va_iald (n := (σ.2.2.1 12)) (f := (σ.2.2.2.1 12)) hx hb hK hP 12 10 (sm_aM12 σ α) (sm_yM12 α) h7 dX12_popParameters_8 ?_
  refine lv_iconst (v := 1) hx hb dX12_popParameters_9 (by decide) ?_
  refine lv_isub hx hb dX12_popParameters_10 ?_
  refine lv_topi (fun v8 ev8 => ?_)
  replace hF := hF v8 ev8
  refine lv_istore (lv' := [(4, .int v8), (0, .ref (α.1 1)), (1, .int p1), (2, .int p2), (3, .int p3)]) hx hb dX12_popParameters_11 hl (by decide) rfl (fun ls hl => ?_)
  obtain ⟨n13, hF⟩ := hF
  exact B13 n13 σ p1 p2 p3 v8 hF H locs ls hP hS (lv_sub hl [1, 2, 3, 4, 0] rfl)
theorem dX12_pushGiven_0 : decode cX12_pushGiven 0 = .ok (.aload_n 0, 1) := by decide +kernel
theorem dX12_pushGiven_1 : decode cX12_pushGiven 1 = .ok (.getfield 10, 3) := by decide +kernel
theorem dX12_pushGiven_4 : decode cX12_pushGiven 4 = .ok (.getfield 77, 3) := by decide +kernel
theorem dX12_pushGiven_7 : decode cX12_pushGiven 7 = .ok (.iload_n 2, 1) := by decide +kernel
theorem dX12_pushGiven_8 : decode cX12_pushGiven 8 = .ok (.iaload, 1) := by decide +kernel
theorem dX12_pushGiven_9 : decode cX12_pushGiven 9 = .ok (.ifCond .lt 20, 3) := by decide +kernel
theorem dX12_pushGiven_12 : decode cX12_pushGiven 12 = .ok (.aload_n 0, 1) := by decide +kernel
theorem dX12_pushGiven_13 : decode cX12_pushGiven 13 = .ok (.iload_n 1, 1) := by decide +kernel
theorem dX12_pushGiven_14 : decode cX12_pushGiven 14 = .ok (.aload_n 0, 1) := by decide +kernel
theorem dX12_pushGiven_15 : decode cX12_pushGiven 15 = .ok (.getfield 10, 3) := by decide +kernel
theorem dX12_pushGiven_18 : decode cX12_pushGiven 18 = .ok (.getfield 77, 3) := by decide +kernel
theorem dX12_pushGiven_21 : decode cX12_pushGiven 21 = .ok (.iload_n 2, 1) := by decide +kernel
theorem dX12_pushGiven_22 : decode cX12_pushGiven 22 = .ok (.iaload, 1) := by decide +kernel
theorem dX12_pushGiven_23 : decode cX12_pushGiven 23 = .ok (.invokevirtual 80, 3) := by decide +kernel
theorem dX12_pushGiven_26 : decode cX12_pushGiven 26 = .ok (.ifCond .eq 7, 3) := by decide +kernel
theorem dX12_pushGiven_29 : decode cX12_pushGiven 29 = .ok (.iconst 1, 1) := by decide +kernel
theorem dX12_pushGiven_30 : decode cX12_pushGiven 30 = .ok (.goto 4, 3) := by decide +kernel
theorem dX12_pushGiven_33 : decode cX12_pushGiven 33 = .ok (.iconst 0, 1) := by decide +kernel
theorem dX12_pushGiven_34 : decode cX12_pushGiven 34 = .ok (.ireturn, 1) := by decide +kernel
def wp_X12_pushGiven : List Cond := .code yX12_pushGiven cX12_pushGiven 3 (some .boolean) :: ((([.fieldLink RX12 10 "SteadyMachineModel" "image" "LSteadyMachineModel$Image;"] ++ (wsV RX12 80 RX12 yX12_push wp_X12_push)) ++ wsX110) ++ wsX120)
theorem wq_X12_pushGiven : wp_X12_pushGiven.all goodWord = true := wa_c rfl (wa_a (wa_a (wa_a (by decide +kernel) (wa_V wq_X12_push)) uq_X11) uq_X12)
theorem wt_X12_pushGiven : GoodIn lw_tbl wp_X12_pushGiven := wm_c (List.mem_of_getElem? (i := 1357) (by decide +kernel)) rfl (wm_a (wm_a (wm_a (goodIn_r _ [1490] (by decide +kernel) (by decide +kernel)) (wm_a (goodIn_r _ [1311, 1313, 90, 147] (by decide +kernel) (by decide +kernel)) wt_X12_push)) ut_X11) ut_X12)
theorem wg_X12_pushGiven_X12_push_80 : GoodIn wp_X12_pushGiven (wsV RX12 80 RX12 yX12_push wp_X12_push) := goodIn_sub (fun w h => List.mem_cons_of_mem _ (List.mem_append_left _ (List.mem_append_left _ (List.mem_append_right _ h)))) (wa_V wq_X12_push)
theorem wi_X12_pushGiven_X11 : ∀ w ∈ wsX110, w ∈ wp_X12_pushGiven := fun w h => List.mem_cons_of_mem _ (List.mem_append_left _ (List.mem_append_right _ h))
theorem wi_X12_pushGiven_X12 : ∀ w ∈ wsX120, w ∈ wp_X12_pushGiven := fun w h => List.mem_cons_of_mem _ (List.mem_append_right _ h)
set_option maxHeartbeats 4000000 in
set_option maxRecDepth 100000 in
theorem c_X12_pushGiven (l : Launch) (D : va_G) (sz t0 : Nat) (σ : sm_S) (α : sm_A) (p1 : Int32) (p2 : Int32) (K : Int32 → sm_S → Prop) (hF : mp_X12_pushGiven σ p1 p2 K) : Met l yX12_pushGiven wp_X12_pushGiven { frames := 1, cells := 0, slots := 0, locals := 22 } (sm_P sm_wM sm_tM 40 D sz t0 σ α [.ref (α.1 1), .int p1, .int p2]) (va_Qi K (sm_B sm_wM D α) (sm_a α 40 sz)) 0 0 (sm_a α 40 sz) := by
  refine Met.ofW (cc := cX12_pushGiven) (maxL := 3) (ret := (some .boolean)) (by decide) rfl ?_
  intro p e s m args below meth c s₁ B hml hv
  obtain ⟨rfl, hsz, hP, hK, hD0, hE⟩ := hv
  have hx := B.exec
  have hb := B.bytes
  have hr := B.returns
  have hts := atoms_spec (ws := wp_X12_pushGiven) B.pre
  have hown : s.vm.findClass RX12 = some m.cls := findClass_of_methodNamed B.named
  have hlocks := B.notSynchronized
  subst hsz
  have hD : sm_D (sm_a α 40 s.heap.size) α 40 := hD0.own
  have hA : ∀ q : Nat, s.heap.size ≤ q → sm_a α 40 s.heap.size q := fun q h => Or.inr h
  generalize hAe : sm_a α 40 s.heap.size = A at hD hA hE ⊢
  have hS : va_S A s.heap s.heap [] := va_S.rf
  have in_X11 : ∀ w ∈ wsX110, w ∈ wp_X12_pushGiven := wi_X12_pushGiven_X11
  have in_X12 : ∀ w ∈ wsX120, w ∈ wp_X12_pushGiven := wi_X12_pushGiven_X12
  have k_0 := hts (.fieldLink RX12 10 "SteadyMachineModel" "image" "LSteadyMachineModel$Image;") (by decide +kernel)
  have hl := lv_entry ([.ref (α.1 1), .int p1, .int p2]) (n := 3) (Nat.le_of_ble_eq_true rfl)
  rw [lg_entry_eq]
  generalize (lg_sl ([.ref (α.1 1), .int p1, .int p2]) ++ List.replicate (3 - (lg_sl ([.ref (α.1 1), .int p1, .int p2])).length) Slot.unset).toArray = ls at hl ⊢
  have hl : lv_has ls 3 [(0, .ref (α.1 1)), (1, .int p1), (2, .int p2)] := hl
  have B34 : ∀ (σ : sm_S) (y0 : Int32), mp_X12_pushGiven_34 K σ y0 → sm_J p l e (headSpec wp_X12_pushGiven { frames := 1, cells := 0, slots := 0, locals := 22 }).room s m ([.ref (α.1 1), .int p1, .int p2] : List Value).toArray below meth c (MQ below (va_Qi K (sm_B sm_wM D α) A) ([.ref (α.1 1), .int p1, .int p2] : List Value).toArray s 0 0 A) D A 3 (sm_wM σ α) 34 [] [.int y0] := by
    intro σ y0 hF H locs ls hP hS hl
    unfold mp_X12_pushGiven_34 at hF
    obtain ⟨h1, hF⟩ := hF
    exact W.zret (v := y0) hx hb hr h1.1 (fun t ht hW => ⟨⟨y0, σ, rfl, hF, (by unfold sm_B; rw [ht]; exact hP)⟩, hS.F ht⟩) hS.2.2 dX12_pushGiven_34
  have B29 : ∀ (σ : sm_S), mp_X12_pushGiven_29 K σ → sm_J p l e (headSpec wp_X12_pushGiven { frames := 1, cells := 0, slots := 0, locals := 22 }).room s m ([.ref (α.1 1), .int p1, .int p2] : List Value).toArray below meth c (MQ below (va_Qi K (sm_B sm_wM D α) A) ([.ref (α.1 1), .int p1, .int p2] : List Value).toArray s 0 0 A) D A 3 (sm_wM σ α) 29 [] [] := by
    intro σ hF H locs ls hP hS hl
    unfold mp_X12_pushGiven_29 at hF
    refine lv_iconst (v := 1) hx hb dX12_pushGiven_29 (by decide) ?_
    refine lv_goto (tgt := 34) hx hb dX12_pushGiven_30 (by decide) ?_
    exact B34 σ 1 hF H locs ls hP hS (lv_sub hl [] rfl)
  unfold mp_X12_pushGiven at hF
  revert hP hS
  generalize hLo : ([] : List Loc) = locs
  suffices h9 : ∀ (H : Heap) (locs : List Loc), va_P D vwCl (sm_wM σ α) H → va_S A s.heap H locs → W p l e (headSpec wp_X12_pushGiven { frames := 1, cells := 0, slots := 0, locals := 22 }).room s m ([.ref (α.1 1), .int p1, .int p2] : List Value).toArray below meth c H locs 0 0 (MQ below (va_Qi K (sm_B sm_wM D α) A) ([.ref (α.1 1), .int p1, .int p2] : List Value).toArray s 0 0 A) (F0 m 0 ls []) from fun hP hS => h9 s.heap locs hP hS
  intro H locs hP hS
  refine lv_aload_n hx hb dX12_pushGiven_0 rfl (lv_at hl 0 rfl) ?_
  refine va_get (D := D) (ci := 12) (v := .ref (α.1 0)) (C := RX12) (T := TX12) (N := 42) hx hb hts in_X12 hown hK hP 1 (sm_gX12 σ α) rfl 0 (by decide) k_0 (fun _ h9 => h9) rfl dX12_pushGiven_1 ?_
  refine va_getN (D := D) (ci := 11) (v := .ref (α.1 14)) (C := RX11) (T := TX11) (N := 28) hx hb hts in_X11 hown hK hP 0 (sm_gX11 σ α) rfl 19 (by decide) (va_Nw.use rfl (hE.1 (.fieldLinkNest "SteadyMachineModel" 77 "SteadyMachineModel$Image" "gives" "[I" "SteadyMachineModel") (by decide +kernel))) (fun _ h9 => h9) rfl dX12_pushGiven_4 ?_
  refine lv_iload_n hx hb dX12_pushGiven_7 rfl (lv_at hl 2 rfl) ?_
  obtain ⟨h2, hF⟩ := hF
  refine va_iald (n := (σ.2.2.1 14)) (f := (σ.2.2.2.1 14)) hx hb hK hP 14 12 (sm_aM14 σ α) (sm_yM14 α) h2 dX12_pushGiven_8 ?_
  refine lv_if_lt (tgt := 29) hx hb dX12_pushGiven_9 (by decide) (fun h3 => ?_) (fun h3 => ?_)
  · replace hF := hF.1 h3
    exact B29 σ hF H locs ls hP hS (lv_sub hl [] rfl)
  · replace hF := hF.2 h3
    refine lv_aload_n hx hb dX12_pushGiven_12 rfl (lv_at hl 0 rfl) ?_
    refine lv_iload_n hx hb dX12_pushGiven_13 rfl (lv_at hl 1 rfl) ?_
    refine lv_aload_n hx hb dX12_pushGiven_14 rfl (lv_at hl 0 rfl) ?_
    refine va_get (D := D) (ci := 12) (v := .ref (α.1 0)) (C := RX12) (T := TX12) (N := 42) hx hb hts in_X12 hown hK hP 1 (sm_gX12 σ α) rfl 0 (by decide) k_0 (fun _ h9 => h9) rfl dX12_pushGiven_15 ?_
    refine va_getN (D := D) (ci := 11) (v := .ref (α.1 14)) (C := RX11) (T := TX11) (N := 28) hx hb hts in_X11 hown hK hP 0 (sm_gX11 σ α) rfl 19 (by decide) (va_Nw.use rfl (hE.1 (.fieldLinkNest "SteadyMachineModel" 77 "SteadyMachineModel$Image" "gives" "[I" "SteadyMachineModel") (by decide +kernel))) (fun _ h9 => h9) rfl dX12_pushGiven_18 ?_
    refine lv_iload_n hx hb dX12_pushGiven_21 rfl (lv_at hl 2 rfl) ?_
    obtain ⟨h4, hF⟩ := hF
    refine va_iald (n := (σ.2.2.1 14)) (f := (σ.2.2.2.1 14)) hx hb hK hP 14 12 (sm_aM14 σ α) (sm_yM14 α) h4 dX12_pushGiven_22 ?_
    refine sm_vi (As := [.int p1, .int ((σ.2.2.2.1 14) p2.toNatClampNeg)]) (rest := []) hP hK hD hE hS hA ⟨hx, hb, hml, hown, hts⟩ hl.1 (c_X12_push l D H.size t0 σ α p1 ((σ.2.2.2.1 14) p2.toNatClampNeg) _ hF) (cwV 2 hts wg_X12_pushGiven_X12_push_80 rfl rfl rfl (by decide +kernel) ⟨Nat.le_of_ble_eq_true rfl, Nat.le_of_ble_eq_true rfl⟩) (va_recv hK hP (ci := 12) (q0 := 1) rfl (sm_gX12 σ α)) rfl rfl (Nat.le_of_ble_eq_true rfl) dX12_pushGiven_23 ⟨Nat.zero_le _, Nat.zero_le _⟩ (fun r6 σ5 H locs hF hP hS => ?_)
    refine lv_if_eq (tgt := 33) hx hb dX12_pushGiven_26 (by decide) (fun h7 => ?_) (fun h7 => ?_)
    · replace hF := hF.1 h7
      refine lv_iconst (v := 0) hx hb dX12_pushGiven_33 (by decide) ?_
      exact B34 σ5 0 hF H locs ls hP hS (lv_sub hl [] rfl)
    · replace hF := hF.2 h7
      exact B29 σ5 hF H locs ls hP hS (lv_sub hl [] rfl)
theorem dX12_fitsRow_0 : decode cX12_fitsRow 0 = .ok (.iload_n 2, 1) := by decide +kernel
theorem dX12_fitsRow_1 : decode cX12_fitsRow 1 = .ok (.bipush 31, 2) := by decide +kernel
theorem dX12_fitsRow_3 : decode cX12_fitsRow 3 = .ok (.if_icmp .ne 30, 3) := by decide +kernel
theorem dX12_fitsRow_6 : decode cX12_fitsRow 6 = .ok (.aload_n 0, 1) := by decide +kernel
theorem dX12_fitsRow_7 : decode cX12_fitsRow 7 = .ok (.iload_n 1, 1) := by decide +kernel
theorem dX12_fitsRow_8 : decode cX12_fitsRow 8 = .ok (.iconst 1, 1) := by decide +kernel
theorem dX12_fitsRow_9 : decode cX12_fitsRow 9 = .ok (.invokevirtual 83, 3) := by decide +kernel
theorem dX12_fitsRow_12 : decode cX12_fitsRow 12 = .ok (.ifCond .eq 19, 3) := by decide +kernel
theorem dX12_fitsRow_15 : decode cX12_fitsRow 15 = .ok (.aload_n 0, 1) := by decide +kernel
theorem dX12_fitsRow_16 : decode cX12_fitsRow 16 = .ok (.iload_n 1, 1) := by decide +kernel
theorem dX12_fitsRow_17 : decode cX12_fitsRow 17 = .ok (.bipush 64, 2) := by decide +kernel
theorem dX12_fitsRow_19 : decode cX12_fitsRow 19 = .ok (.iload_n 3, 1) := by decide +kernel
theorem dX12_fitsRow_20 : decode cX12_fitsRow 20 = .ok (.iadd, 1) := by decide +kernel
theorem dX12_fitsRow_21 : decode cX12_fitsRow 21 = .ok (.invokevirtual 80, 3) := by decide +kernel
theorem dX12_fitsRow_24 : decode cX12_fitsRow 24 = .ok (.ifCond .eq 7, 3) := by decide +kernel
theorem dX12_fitsRow_27 : decode cX12_fitsRow 27 = .ok (.iconst 1, 1) := by decide +kernel
theorem dX12_fitsRow_28 : decode cX12_fitsRow 28 = .ok (.goto 4, 3) := by decide +kernel
theorem dX12_fitsRow_31 : decode cX12_fitsRow 31 = .ok (.iconst 0, 1) := by decide +kernel
theorem dX12_fitsRow_32 : decode cX12_fitsRow 32 = .ok (.ireturn, 1) := by decide +kernel
theorem dX12_fitsRow_33 : decode cX12_fitsRow 33 = .ok (.iload_n 2, 1) := by decide +kernel
theorem dX12_fitsRow_34 : decode cX12_fitsRow 34 = .ok (.bipush 34, 2) := by decide +kernel
theorem dX12_fitsRow_36 : decode cX12_fitsRow 36 = .ok (.if_icmp .ne 71, 3) := by decide +kernel
theorem dX12_fitsRow_39 : decode cX12_fitsRow 39 = .ok (.aload_n 0, 1) := by decide +kernel
theorem dX12_fitsRow_40 : decode cX12_fitsRow 40 = .ok (.iload_n 1, 1) := by decide +kernel
theorem dX12_fitsRow_41 : decode cX12_fitsRow 41 = .ok (.invokevirtual 61, 3) := by decide +kernel
theorem dX12_fitsRow_44 : decode cX12_fitsRow 44 = .ok (.istore 4, 2) := by decide +kernel
theorem dX12_fitsRow_46 : decode cX12_fitsRow 46 = .ok (.iload 4, 2) := by decide +kernel
theorem dX12_fitsRow_48 : decode cX12_fitsRow 48 = .ok (.iconst (-1), 1) := by decide +kernel
theorem dX12_fitsRow_49 : decode cX12_fitsRow 49 = .ok (.if_icmp .eq 20, 3) := by decide +kernel
theorem dX12_fitsRow_52 : decode cX12_fitsRow 52 = .ok (.aload_n 0, 1) := by decide +kernel
theorem dX12_fitsRow_53 : decode cX12_fitsRow 53 = .ok (.iload_n 1, 1) := by decide +kernel
theorem dX12_fitsRow_54 : decode cX12_fitsRow 54 = .ok (.iconst 1, 1) := by decide +kernel
theorem dX12_fitsRow_55 : decode cX12_fitsRow 55 = .ok (.invokevirtual 83, 3) := by decide +kernel
theorem dX12_fitsRow_58 : decode cX12_fitsRow 58 = .ok (.ifCond .eq 11, 3) := by decide +kernel
theorem dX12_fitsRow_61 : decode cX12_fitsRow 61 = .ok (.aload_n 0, 1) := by decide +kernel
theorem dX12_fitsRow_62 : decode cX12_fitsRow 62 = .ok (.iload_n 1, 1) := by decide +kernel
theorem dX12_fitsRow_63 : decode cX12_fitsRow 63 = .ok (.invokevirtual 61, 3) := by decide +kernel
theorem dX12_fitsRow_66 : decode cX12_fitsRow 66 = .ok (.goto 4, 3) := by decide +kernel
theorem dX12_fitsRow_69 : decode cX12_fitsRow 69 = .ok (.iconst (-1), 1) := by decide +kernel
theorem dX12_fitsRow_70 : decode cX12_fitsRow 70 = .ok (.istore 5, 2) := by decide +kernel
theorem dX12_fitsRow_72 : decode cX12_fitsRow 72 = .ok (.iload 5, 2) := by decide +kernel
theorem dX12_fitsRow_74 : decode cX12_fitsRow 74 = .ok (.bipush 97, 2) := by decide +kernel
theorem dX12_fitsRow_76 : decode cX12_fitsRow 76 = .ok (.if_icmp .eq 25, 3) := by decide +kernel
theorem dX12_fitsRow_79 : decode cX12_fitsRow 79 = .ok (.iload 5, 2) := by decide +kernel
theorem dX12_fitsRow_81 : decode cX12_fitsRow 81 = .ok (.invokestatic 86, 3) := by decide +kernel
theorem dX12_fitsRow_84 : decode cX12_fitsRow 84 = .ok (.ifCond .eq 21, 3) := by decide +kernel
theorem dX12_fitsRow_87 : decode cX12_fitsRow 87 = .ok (.aload_n 0, 1) := by decide +kernel
theorem dX12_fitsRow_88 : decode cX12_fitsRow 88 = .ok (.iload 4, 2) := by decide +kernel
theorem dX12_fitsRow_90 : decode cX12_fitsRow 90 = .ok (.iload 5, 2) := by decide +kernel
theorem dX12_fitsRow_92 : decode cX12_fitsRow 92 = .ok (.bipush 64, 2) := by decide +kernel
theorem dX12_fitsRow_94 : decode cX12_fitsRow 94 = .ok (.isub, 1) := by decide +kernel
theorem dX12_fitsRow_95 : decode cX12_fitsRow 95 = .ok (.invokevirtual 65, 3) := by decide +kernel
theorem dX12_fitsRow_98 : decode cX12_fitsRow 98 = .ok (.ifCond .eq 7, 3) := by decide +kernel
theorem dX12_fitsRow_101 : decode cX12_fitsRow 101 = .ok (.iconst 1, 1) := by decide +kernel
theorem dX12_fitsRow_102 : decode cX12_fitsRow 102 = .ok (.goto 4, 3) := by decide +kernel
theorem dX12_fitsRow_105 : decode cX12_fitsRow 105 = .ok (.iconst 0, 1) := by decide +kernel
theorem dX12_fitsRow_106 : decode cX12_fitsRow 106 = .ok (.ireturn, 1) := by decide +kernel
theorem dX12_fitsRow_107 : decode cX12_fitsRow 107 = .ok (.iload_n 2, 1) := by decide +kernel
theorem dX12_fitsRow_108 : decode cX12_fitsRow 108 = .ok (.bipush 32, 2) := by decide +kernel
theorem dX12_fitsRow_110 : decode cX12_fitsRow 110 = .ok (.if_icmp .eq 12, 3) := by decide +kernel
theorem dX12_fitsRow_113 : decode cX12_fitsRow 113 = .ok (.aload_n 0, 1) := by decide +kernel
theorem dX12_fitsRow_114 : decode cX12_fitsRow 114 = .ok (.iload_n 1, 1) := by decide +kernel
theorem dX12_fitsRow_115 : decode cX12_fitsRow 115 = .ok (.iconst 1, 1) := by decide +kernel
theorem dX12_fitsRow_116 : decode cX12_fitsRow 116 = .ok (.invokevirtual 83, 3) := by decide +kernel
theorem dX12_fitsRow_119 : decode cX12_fitsRow 119 = .ok (.ifCond .eq 11, 3) := by decide +kernel
theorem dX12_fitsRow_122 : decode cX12_fitsRow 122 = .ok (.aload_n 0, 1) := by decide +kernel
theorem dX12_fitsRow_123 : decode cX12_fitsRow 123 = .ok (.iload_n 1, 1) := by decide +kernel
theorem dX12_fitsRow_124 : decode cX12_fitsRow 124 = .ok (.invokevirtual 61, 3) := by decide +kernel
theorem dX12_fitsRow_127 : decode cX12_fitsRow 127 = .ok (.goto 4, 3) := by decide +kernel
theorem dX12_fitsRow_130 : decode cX12_fitsRow 130 = .ok (.iconst (-1), 1) := by decide +kernel
theorem dX12_fitsRow_131 : decode cX12_fitsRow 131 = .ok (.istore 4, 2) := by decide +kernel
theorem dX12_fitsRow_133 : decode cX12_fitsRow 133 = .ok (.iload 4, 2) := by decide +kernel
theorem dX12_fitsRow_135 : decode cX12_fitsRow 135 = .ok (.bipush 97, 2) := by decide +kernel
theorem dX12_fitsRow_137 : decode cX12_fitsRow 137 = .ok (.if_icmp .eq 11, 3) := by decide +kernel
theorem dX12_fitsRow_140 : decode cX12_fitsRow 140 = .ok (.iload 4, 2) := by decide +kernel
theorem dX12_fitsRow_142 : decode cX12_fitsRow 142 = .ok (.invokestatic 86, 3) := by decide +kernel
theorem dX12_fitsRow_145 : decode cX12_fitsRow 145 = .ok (.ifCond .eq 42, 3) := by decide +kernel
theorem dX12_fitsRow_148 : decode cX12_fitsRow 148 = .ok (.aload_n 0, 1) := by decide +kernel
theorem dX12_fitsRow_149 : decode cX12_fitsRow 149 = .ok (.iload_n 1, 1) := by decide +kernel
theorem dX12_fitsRow_150 : decode cX12_fitsRow 150 = .ok (.iload_n 2, 1) := by decide +kernel
theorem dX12_fitsRow_151 : decode cX12_fitsRow 151 = .ok (.bipush 32, 2) := by decide +kernel
theorem dX12_fitsRow_153 : decode cX12_fitsRow 153 = .ok (.if_icmp .ne 7, 3) := by decide +kernel
theorem dX12_fitsRow_156 : decode cX12_fitsRow 156 = .ok (.iconst 0, 1) := by decide +kernel
theorem dX12_fitsRow_157 : decode cX12_fitsRow 157 = .ok (.goto 20, 3) := by decide +kernel
theorem dX12_fitsRow_160 : decode cX12_fitsRow 160 = .ok (.iload 4, 2) := by decide +kernel
theorem dX12_fitsRow_162 : decode cX12_fitsRow 162 = .ok (.bipush 97, 2) := by decide +kernel
theorem dX12_fitsRow_164 : decode cX12_fitsRow 164 = .ok (.if_icmp .ne 8, 3) := by decide +kernel
theorem dX12_fitsRow_167 : decode cX12_fitsRow 167 = .ok (.bipush 97, 2) := by decide +kernel
theorem dX12_fitsRow_169 : decode cX12_fitsRow 169 = .ok (.goto 8, 3) := by decide +kernel
theorem dX12_fitsRow_172 : decode cX12_fitsRow 172 = .ok (.iload 4, 2) := by decide +kernel
theorem dX12_fitsRow_174 : decode cX12_fitsRow 174 = .ok (.bipush 64, 2) := by decide +kernel
theorem dX12_fitsRow_176 : decode cX12_fitsRow 176 = .ok (.isub, 1) := by decide +kernel
theorem dX12_fitsRow_177 : decode cX12_fitsRow 177 = .ok (.invokevirtual 80, 3) := by decide +kernel
theorem dX12_fitsRow_180 : decode cX12_fitsRow 180 = .ok (.ifCond .eq 7, 3) := by decide +kernel
theorem dX12_fitsRow_183 : decode cX12_fitsRow 183 = .ok (.iconst 1, 1) := by decide +kernel
theorem dX12_fitsRow_184 : decode cX12_fitsRow 184 = .ok (.goto 4, 3) := by decide +kernel
theorem dX12_fitsRow_187 : decode cX12_fitsRow 187 = .ok (.iconst 0, 1) := by decide +kernel
theorem dX12_fitsRow_188 : decode cX12_fitsRow 188 = .ok (.ireturn, 1) := by decide +kernel
def wp_X12_fitsRow : List Cond := .code yX12_fitsRow cX12_fitsRow 6 (some .boolean) :: ((((([] ++ (wsV RX12 80 RX12 yX12_push wp_X12_push)) ++ (va_wsS RX12 86 yX12_isRow wp_X12_isRow)) ++ (wsV RX12 61 RX12 yX12_pop wp_X12_pop)) ++ (wsV RX12 65 RX12 yX12_goes wp_X12_goes)) ++ (wsV RX12 83 RX12 yX12_popInts wp_X12_popInts))
theorem wq_X12_fitsRow : wp_X12_fitsRow.all goodWord = true := wa_c rfl (wa_a (wa_a (wa_a (wa_a (wa_a (by decide +kernel) (wa_V wq_X12_push)) (wa_S wq_X12_isRow)) (wa_V wq_X12_pop)) (wa_V wq_X12_goes)) (wa_V wq_X12_popInts))
theorem wt_X12_fitsRow : GoodIn lw_tbl wp_X12_fitsRow := wm_c (List.mem_of_getElem? (i := 1330) (by decide +kernel)) rfl (wm_a (wm_a (wm_a (wm_a (wm_a (goodIn_r _ [] (by decide +kernel) (by decide +kernel)) (wm_a (goodIn_r _ [1311, 1313, 90, 147] (by decide +kernel) (by decide +kernel)) wt_X12_push)) (wm_a (goodIn_r _ [1335, 1336, 147] (by decide +kernel) (by decide +kernel)) wt_X12_isRow)) (wm_a (goodIn_r _ [1323, 1325, 93, 147] (by decide +kernel) (by decide +kernel)) wt_X12_pop)) (wm_a (goodIn_r _ [1338, 1340, 96, 147] (by decide +kernel) (by decide +kernel)) wt_X12_goes)) (wm_a (goodIn_r _ [1331, 1333, 95, 147] (by decide +kernel) (by decide +kernel)) wt_X12_popInts))
theorem wg_X12_fitsRow_X12_push_80 : GoodIn wp_X12_fitsRow (wsV RX12 80 RX12 yX12_push wp_X12_push) := goodIn_sub (fun w h => List.mem_cons_of_mem _ (List.mem_append_left _ (List.mem_append_left _ (List.mem_append_left _ (List.mem_append_left _ (List.mem_append_right _ h)))))) (wa_V wq_X12_push)
theorem wg_X12_fitsRow_X12_isRow_86 : GoodIn wp_X12_fitsRow (va_wsS RX12 86 yX12_isRow wp_X12_isRow) := goodIn_sub (fun w h => List.mem_cons_of_mem _ (List.mem_append_left _ (List.mem_append_left _ (List.mem_append_left _ (List.mem_append_right _ h))))) (wa_S wq_X12_isRow)
theorem wg_X12_fitsRow_X12_pop_61 : GoodIn wp_X12_fitsRow (wsV RX12 61 RX12 yX12_pop wp_X12_pop) := goodIn_sub (fun w h => List.mem_cons_of_mem _ (List.mem_append_left _ (List.mem_append_left _ (List.mem_append_right _ h)))) (wa_V wq_X12_pop)
theorem wg_X12_fitsRow_X12_goes_65 : GoodIn wp_X12_fitsRow (wsV RX12 65 RX12 yX12_goes wp_X12_goes) := goodIn_sub (fun w h => List.mem_cons_of_mem _ (List.mem_append_left _ (List.mem_append_right _ h))) (wa_V wq_X12_goes)
theorem wg_X12_fitsRow_X12_popInts_83 : GoodIn wp_X12_fitsRow (wsV RX12 83 RX12 yX12_popInts wp_X12_popInts) := goodIn_sub (fun w h => List.mem_cons_of_mem _ (List.mem_append_right _ h)) (wa_V wq_X12_popInts)
set_option maxHeartbeats 4000000 in
set_option maxRecDepth 100000 in
theorem c_X12_fitsRow (l : Launch) (D : va_G) (sz t0 : Nat) (σ : sm_S) (α : sm_A) (p1 : Int32) (p2 : Int32) (p3 : Int32) (K : Int32 → sm_S → Prop) (hF : mp_X12_fitsRow σ p1 p2 p3 K) : Met l yX12_fitsRow wp_X12_fitsRow { frames := 3, cells := 0, slots := 0, locals := 66 } (sm_P sm_wM sm_tM 40 D sz t0 σ α [.ref (α.1 1), .int p1, .int p2, .int p3]) (va_Qi K (sm_B sm_wM D α) (sm_a α 40 sz)) 0 0 (sm_a α 40 sz) := by
  refine Met.ofW (cc := cX12_fitsRow) (maxL := 6) (ret := (some .boolean)) (by decide) rfl ?_
  intro p e s m args below meth c s₁ B hml hv
  obtain ⟨rfl, hsz, hP, hK, hD0, hE⟩ := hv
  have hx := B.exec
  have hb := B.bytes
  have hr := B.returns
  have hts := atoms_spec (ws := wp_X12_fitsRow) B.pre
  have hown : s.vm.findClass RX12 = some m.cls := findClass_of_methodNamed B.named
  have hlocks := B.notSynchronized
  subst hsz
  have hD : sm_D (sm_a α 40 s.heap.size) α 40 := hD0.own
  have hA : ∀ q : Nat, s.heap.size ≤ q → sm_a α 40 s.heap.size q := fun q h => Or.inr h
  generalize hAe : sm_a α 40 s.heap.size = A at hD hA hE ⊢
  have hS : va_S A s.heap s.heap [] := va_S.rf
  have hl := lv_entry ([.ref (α.1 1), .int p1, .int p2, .int p3]) (n := 6) (Nat.le_of_ble_eq_true rfl)
  rw [lg_entry_eq]
  generalize (lg_sl ([.ref (α.1 1), .int p1, .int p2, .int p3]) ++ List.replicate (6 - (lg_sl ([.ref (α.1 1), .int p1, .int p2, .int p3])).length) Slot.unset).toArray = ls at hl ⊢
  have hl : lv_has ls 6 [(0, .ref (α.1 1)), (1, .int p1), (2, .int p2), (3, .int p3)] := hl
  have B188 : ∀ (σ : sm_S) (y0 : Int32), mp_X12_fitsRow_188 K σ y0 → sm_J p l e (headSpec wp_X12_fitsRow { frames := 3, cells := 0, slots := 0, locals := 66 }).room s m ([.ref (α.1 1), .int p1, .int p2, .int p3] : List Value).toArray below meth c (MQ below (va_Qi K (sm_B sm_wM D α) A) ([.ref (α.1 1), .int p1, .int p2, .int p3] : List Value).toArray s 0 0 A) D A 6 (sm_wM σ α) 188 [] [.int y0] := by
    intro σ y0 hF H locs ls hP hS hl
    unfold mp_X12_fitsRow_188 at hF
    obtain ⟨h1, hF⟩ := hF
    exact W.zret (v := y0) hx hb hr h1.1 (fun t ht hW => ⟨⟨y0, σ, rfl, hF, (by unfold sm_B; rw [ht]; exact hP)⟩, hS.F ht⟩) hS.2.2 dX12_fitsRow_188
  have B187 : ∀ (σ : sm_S), mp_X12_fitsRow_187 K σ → sm_J p l e (headSpec wp_X12_fitsRow { frames := 3, cells := 0, slots := 0, locals := 66 }).room s m ([.ref (α.1 1), .int p1, .int p2, .int p3] : List Value).toArray below meth c (MQ below (va_Qi K (sm_B sm_wM D α) A) ([.ref (α.1 1), .int p1, .int p2, .int p3] : List Value).toArray s 0 0 A) D A 6 (sm_wM σ α) 187 [] [] := by
    intro σ hF H locs ls hP hS hl
    unfold mp_X12_fitsRow_187 at hF
    refine lv_iconst (v := 0) hx hb dX12_fitsRow_187 (by decide) ?_
    exact B188 σ 0 hF H locs ls hP hS (lv_sub hl [] rfl)
  have B177 : ∀ (σ : sm_S) (y1 : Int32) (y2 : Int32), mp_X12_fitsRow_177 K σ y1 y2 → sm_J p l e (headSpec wp_X12_fitsRow { frames := 3, cells := 0, slots := 0, locals := 66 }).room s m ([.ref (α.1 1), .int p1, .int p2, .int p3] : List Value).toArray below meth c (MQ below (va_Qi K (sm_B sm_wM D α) A) ([.ref (α.1 1), .int p1, .int p2, .int p3] : List Value).toArray s 0 0 A) D A 6 (sm_wM σ α) 177 [] [.int y2, .int y1, .ref (α.1 1)] := by
    intro σ y1 y2 hF H locs ls hP hS hl
    unfold mp_X12_fitsRow_177 at hF
    refine sm_vi (As := [.int y1, .int y2]) (rest := []) hP hK hD hE hS hA ⟨hx, hb, hml, hown, hts⟩ hl.1 (c_X12_push l D H.size t0 σ α y1 y2 _ hF) (cwV 2 hts wg_X12_fitsRow_X12_push_80 rfl rfl rfl (by decide +kernel) ⟨Nat.le_of_ble_eq_true rfl, Nat.le_of_ble_eq_true rfl⟩) (va_recv hK hP (ci := 12) (q0 := 1) rfl (sm_gX12 σ α)) rfl rfl (Nat.le_of_ble_eq_true rfl) dX12_fitsRow_177 ⟨Nat.zero_le _, Nat.zero_le _⟩ (fun r3 σ2 H locs hF hP hS => ?_)
    refine lv_if_eq (tgt := 187) hx hb dX12_fitsRow_180 (by decide) (fun h4 => ?_) (fun h4 => ?_)
    · replace hF := hF.1 h4
      exact B187 σ2 hF H locs ls hP hS (lv_sub hl [] rfl)
    · replace hF := hF.2 h4
      refine lv_iconst (v := 1) hx hb dX12_fitsRow_183 (by decide) ?_
      refine lv_goto (tgt := 188) hx hb dX12_fitsRow_184 (by decide) ?_
      exact B188 σ2 1 hF H locs ls hP hS (lv_sub hl [] rfl)
  have B148 : ∀ (σ : sm_S) (x1 : Int32) (x2 : Int32) (x4 : Int32), mp_X12_fitsRow_148 K σ x1 x2 x4 → sm_J p l e (headSpec wp_X12_fitsRow { frames := 3, cells := 0, slots := 0, locals := 66 }).room s m ([.ref (α.1 1), .int p1, .int p2, .int p3] : List Value).toArray below meth c (MQ below (va_Qi K (sm_B sm_wM D α) A) ([.ref (α.1 1), .int p1, .int p2, .int p3] : List Value).toArray s 0 0 A) D A 6 (sm_wM σ α) 148 [(0, .ref (α.1 1)), (1, .int x1), (2, .int x2), (4, .int x4)] [] := by
    intro σ x1 x2 x4 hF H locs ls hP hS hl
    unfold mp_X12_fitsRow_148 at hF
    refine lv_aload_n hx hb dX12_fitsRow_148 rfl (lv_at hl 0 rfl) ?_
    refine lv_iload_n hx hb dX12_fitsRow_149 rfl (lv_at hl 1 rfl) ?_
    refine lv_iload_n hx hb dX12_fitsRow_150 rfl (lv_at hl 2 rfl) ?_
    refine lv_bipush (v := 32) hx hb dX12_fitsRow_151 (by decide) ?_
    refine lv_icmp_ne (tgt := 160) hx hb dX12_fitsRow_153 (by decide) (fun h5 => ?_) (fun h5 => ?_)
    · replace hF := hF.1 h5
      refine lv_iload hx hb dX12_fitsRow_160 (lv_at hl 3 rfl) ?_
      refine lv_bipush (v := 97) hx hb dX12_fitsRow_162 (by decide) ?_
      refine lv_icmp_ne (tgt := 172) hx hb dX12_fitsRow_164 (by decide) (fun h6 => ?_) (fun h6 => ?_)
      · replace hF := hF.1 h6
        refine lv_iload hx hb dX12_fitsRow_172 (lv_at hl 3 rfl) ?_
        refine lv_bipush (v := 64) hx hb dX12_fitsRow_174 (by decide) ?_
        refine lv_isub hx hb dX12_fitsRow_176 ?_
        exact B177 σ x1 (x4 - 64) hF H locs ls hP hS (lv_sub hl [] rfl)
      · replace hF := hF.2 h6
        refine lv_bipush (v := 97) hx hb dX12_fitsRow_167 (by decide) ?_
        refine lv_goto (tgt := 177) hx hb dX12_fitsRow_169 (by decide) ?_
        exact B177 σ x1 97 hF H locs ls hP hS (lv_sub hl [] rfl)
    · replace hF := hF.2 h5
      refine lv_iconst (v := 0) hx hb dX12_fitsRow_156 (by decide) ?_
      refine lv_goto (tgt := 177) hx hb dX12_fitsRow_157 (by decide) ?_
      exact B177 σ x1 0 hF H locs ls hP hS (lv_sub hl [] rfl)
  have B131 : ∀ (σ : sm_S) (x1 : Int32) (x2 : Int32) (y0 : Int32), mp_X12_fitsRow_131 K σ x1 x2 y0 → sm_J p l e (headSpec wp_X12_fitsRow { frames := 3, cells := 0, slots := 0, locals := 66 }).room s m ([.ref (α.1 1), .int p1, .int p2, .int p3] : List Value).toArray below meth c (MQ below (va_Qi K (sm_B sm_wM D α) A) ([.ref (α.1 1), .int p1, .int p2, .int p3] : List Value).toArray s 0 0 A) D A 6 (sm_wM σ α) 131 [(0, .ref (α.1 1)), (1, .int x1), (2, .int x2)] [.int y0] := by
    intro σ x1 x2 y0 hF H locs ls hP hS hl
    unfold mp_X12_fitsRow_131 at hF
    refine lv_istore (lv' := [(4, .int y0), (0, .ref (α.1 1)), (1, .int x1), (2, .int x2)]) hx hb dX12_fitsRow_131 hl (by decide) rfl (fun ls hl => ?_)
    refine lv_iload hx hb dX12_fitsRow_133 (lv_at hl 0 rfl) ?_
    refine lv_bipush (v := 97) hx hb dX12_fitsRow_135 (by decide) ?_
    refine lv_icmp_eq (tgt := 148) hx hb dX12_fitsRow_137 (by decide) (fun h7 => ?_) (fun h7 => ?_)
    · replace hF := hF.1 h7
      exact B148 σ x1 x2 y0 hF H locs ls hP hS (lv_sub hl [1, 2, 3, 0] rfl)
    · replace hF := hF.2 h7
      refine lv_iload hx hb dX12_fitsRow_140 (lv_at hl 0 rfl) ?_
      refine sm_si (As := [.int y0]) (rest := []) hP hK hD hE hS hA ⟨hx, hb, hml, hown, hts⟩ hl.1 (c_X12_isRow l D H.size t0 σ α y0 _ hF) (va_cwS 1 hts wg_X12_fitsRow_X12_isRow_86 rfl rfl rfl (by decide +kernel) ⟨Nat.le_of_ble_eq_true rfl, Nat.le_of_ble_eq_true rfl⟩) rfl rfl (Nat.le_of_ble_eq_true rfl) dX12_fitsRow_142 ⟨Nat.zero_le _, Nat.zero_le _⟩ (fun r9 σ8 H locs hF hP hS => ?_)
      refine lv_if_eq (tgt := 187) hx hb dX12_fitsRow_145 (by decide) (fun h10 => ?_) (fun h10 => ?_)
      · replace hF := hF.1 h10
        exact B187 σ8 hF H locs ls hP hS (lv_sub hl [] rfl)
      · replace hF := hF.2 h10
        exact B148 σ8 x1 x2 y0 hF H locs ls hP hS (lv_sub hl [1, 2, 3, 0] rfl)
  have B122 : ∀ (σ : sm_S) (x1 : Int32) (x2 : Int32), mp_X12_fitsRow_122 K σ x1 x2 → sm_J p l e (headSpec wp_X12_fitsRow { frames := 3, cells := 0, slots := 0, locals := 66 }).room s m ([.ref (α.1 1), .int p1, .int p2, .int p3] : List Value).toArray below meth c (MQ below (va_Qi K (sm_B sm_wM D α) A) ([.ref (α.1 1), .int p1, .int p2, .int p3] : List Value).toArray s 0 0 A) D A 6 (sm_wM σ α) 122 [(0, .ref (α.1 1)), (1, .int x1), (2, .int x2)] [] := by
    intro σ x1 x2 hF H locs ls hP hS hl
    unfold mp_X12_fitsRow_122 at hF
    refine lv_aload_n hx hb dX12_fitsRow_122 rfl (lv_at hl 0 rfl) ?_
    refine lv_iload_n hx hb dX12_fitsRow_123 rfl (lv_at hl 1 rfl) ?_
    refine sm_vi (As := [.int x1]) (rest := []) hP hK hD hE hS hA ⟨hx, hb, hml, hown, hts⟩ hl.1 (c_X12_pop l D H.size t0 σ α x1 _ hF) (cwV 1 hts wg_X12_fitsRow_X12_pop_61 rfl rfl rfl (by decide +kernel) ⟨Nat.le_of_ble_eq_true rfl, Nat.le_of_ble_eq_true rfl⟩) (va_recv hK hP (ci := 12) (q0 := 1) rfl (sm_gX12 σ α)) rfl rfl (Nat.le_of_ble_eq_true rfl) dX12_fitsRow_124 ⟨Nat.zero_le _, Nat.zero_le _⟩ (fun r12 σ11 H locs hF hP hS => ?_)
    refine lv_goto (tgt := 131) hx hb dX12_fitsRow_127 (by decide) ?_
    exact B131 σ11 x1 x2 r12 hF H locs ls hP hS (lv_sub hl [0, 1, 2] rfl)
  have B106 : ∀ (σ : sm_S) (y0 : Int32), mp_X12_fitsRow_106 K σ y0 → sm_J p l e (headSpec wp_X12_fitsRow { frames := 3, cells := 0, slots := 0, locals := 66 }).room s m ([.ref (α.1 1), .int p1, .int p2, .int p3] : List Value).toArray below meth c (MQ below (va_Qi K (sm_B sm_wM D α) A) ([.ref (α.1 1), .int p1, .int p2, .int p3] : List Value).toArray s 0 0 A) D A 6 (sm_wM σ α) 106 [] [.int y0] := by
    intro σ y0 hF H locs ls hP hS hl
    unfold mp_X12_fitsRow_106 at hF
    obtain ⟨h13, hF⟩ := hF
    exact W.zret (v := y0) hx hb hr h13.1 (fun t ht hW => ⟨⟨y0, σ, rfl, hF, (by unfold sm_B; rw [ht]; exact hP)⟩, hS.F ht⟩) hS.2.2 dX12_fitsRow_106
  have B105 : ∀ (σ : sm_S), mp_X12_fitsRow_105 K σ → sm_J p l e (headSpec wp_X12_fitsRow { frames := 3, cells := 0, slots := 0, locals := 66 }).room s m ([.ref (α.1 1), .int p1, .int p2, .int p3] : List Value).toArray below meth c (MQ below (va_Qi K (sm_B sm_wM D α) A) ([.ref (α.1 1), .int p1, .int p2, .int p3] : List Value).toArray s 0 0 A) D A 6 (sm_wM σ α) 105 [] [] := by
    intro σ hF H locs ls hP hS hl
    unfold mp_X12_fitsRow_105 at hF
    refine lv_iconst (v := 0) hx hb dX12_fitsRow_105 (by decide) ?_
    exact B106 σ 0 hF H locs ls hP hS (lv_sub hl [] rfl)
  have B101 : ∀ (σ : sm_S), mp_X12_fitsRow_101 K σ → sm_J p l e (headSpec wp_X12_fitsRow { frames := 3, cells := 0, slots := 0, locals := 66 }).room s m ([.ref (α.1 1), .int p1, .int p2, .int p3] : List Value).toArray below meth c (MQ below (va_Qi K (sm_B sm_wM D α) A) ([.ref (α.1 1), .int p1, .int p2, .int p3] : List Value).toArray s 0 0 A) D A 6 (sm_wM σ α) 101 [] [] := by
    intro σ hF H locs ls hP hS hl
    unfold mp_X12_fitsRow_101 at hF
    refine lv_iconst (v := 1) hx hb dX12_fitsRow_101 (by decide) ?_
    refine lv_goto (tgt := 106) hx hb dX12_fitsRow_102 (by decide) ?_
    exact B106 σ 1 hF H locs ls hP hS (lv_sub hl [] rfl)
  have B70 : ∀ (σ : sm_S) (x4 : Int32) (y0 : Int32), mp_X12_fitsRow_70 K σ x4 y0 → sm_J p l e (headSpec wp_X12_fitsRow { frames := 3, cells := 0, slots := 0, locals := 66 }).room s m ([.ref (α.1 1), .int p1, .int p2, .int p3] : List Value).toArray below meth c (MQ below (va_Qi K (sm_B sm_wM D α) A) ([.ref (α.1 1), .int p1, .int p2, .int p3] : List Value).toArray s 0 0 A) D A 6 (sm_wM σ α) 70 [(0, .ref (α.1 1)), (4, .int x4)] [.int y0] := by
    intro σ x4 y0 hF H locs ls hP hS hl
    unfold mp_X12_fitsRow_70 at hF
    refine lv_istore (lv' := [(5, .int y0), (0, .ref (α.1 1)), (4, .int x4)]) hx hb dX12_fitsRow_70 hl (by decide) rfl (fun ls hl => ?_)
    refine lv_iload hx hb dX12_fitsRow_72 (lv_at hl 0 rfl) ?_
    refine lv_bipush (v := 97) hx hb dX12_fitsRow_74 (by decide) ?_
    refine lv_icmp_eq (tgt := 101) hx hb dX12_fitsRow_76 (by decide) (fun h14 => ?_) (fun h14 => ?_)
    · replace hF := hF.1 h14
      exact B101 σ hF H locs ls hP hS (lv_sub hl [] rfl)
    · replace hF := hF.2 h14
      refine lv_iload hx hb dX12_fitsRow_79 (lv_at hl 0 rfl) ?_
      refine sm_si (As := [.int y0]) (rest := []) hP hK hD hE hS hA ⟨hx, hb, hml, hown, hts⟩ hl.1 (c_X12_isRow l D H.size t0 σ α y0 _ hF) (va_cwS 1 hts wg_X12_fitsRow_X12_isRow_86 rfl rfl rfl (by decide +kernel) ⟨Nat.le_of_ble_eq_true rfl, Nat.le_of_ble_eq_true rfl⟩) rfl rfl (Nat.le_of_ble_eq_true rfl) dX12_fitsRow_81 ⟨Nat.zero_le _, Nat.zero_le _⟩ (fun r16 σ15 H locs hF hP hS => ?_)
      refine lv_if_eq (tgt := 105) hx hb dX12_fitsRow_84 (by decide) (fun h17 => ?_) (fun h17 => ?_)
      · replace hF := hF.1 h17
        exact B105 σ15 hF H locs ls hP hS (lv_sub hl [] rfl)
      · replace hF := hF.2 h17
        refine lv_aload_n hx hb dX12_fitsRow_87 rfl (lv_at hl 1 rfl) ?_
        refine lv_iload hx hb dX12_fitsRow_88 (lv_at hl 2 rfl) ?_
        refine lv_iload hx hb dX12_fitsRow_90 (lv_at hl 0 rfl) ?_
        refine lv_bipush (v := 64) hx hb dX12_fitsRow_92 (by decide) ?_
        refine lv_isub hx hb dX12_fitsRow_94 ?_
        refine sm_vi (As := [.int x4, .int (y0 - 64)]) (rest := []) hP hK hD hE hS hA ⟨hx, hb, hml, hown, hts⟩ hl.1 (c_X12_goes l D H.size t0 σ15 α x4 (y0 - 64) _ hF) (cwV 2 hts wg_X12_fitsRow_X12_goes_65 rfl rfl rfl (by decide +kernel) ⟨Nat.le_of_ble_eq_true rfl, Nat.le_of_ble_eq_true rfl⟩) (va_recv hK hP (ci := 12) (q0 := 1) rfl (sm_gX12 σ15 α)) rfl rfl (Nat.le_of_ble_eq_true rfl) dX12_fitsRow_95 ⟨Nat.zero_le _, Nat.zero_le _⟩ (fun r19 σ18 H locs hF hP hS => ?_)
        refine lv_if_eq (tgt := 105) hx hb dX12_fitsRow_98 (by decide) (fun h20 => ?_) (fun h20 => ?_)
        · replace hF := hF.1 h20
          exact B105 σ18 hF H locs ls hP hS (lv_sub hl [] rfl)
        · replace hF := hF.2 h20
          exact B101 σ18 hF H locs ls hP hS (lv_sub hl [] rfl)
  have B69 : ∀ (σ : sm_S) (x4 : Int32), mp_X12_fitsRow_69 K σ x4 → sm_J p l e (headSpec wp_X12_fitsRow { frames := 3, cells := 0, slots := 0, locals := 66 }).room s m ([.ref (α.1 1), .int p1, .int p2, .int p3] : List Value).toArray below meth c (MQ below (va_Qi K (sm_B sm_wM D α) A) ([.ref (α.1 1), .int p1, .int p2, .int p3] : List Value).toArray s 0 0 A) D A 6 (sm_wM σ α) 69 [(0, .ref (α.1 1)), (4, .int x4)] [] := by
    intro σ x4 hF H locs ls hP hS hl
    unfold mp_X12_fitsRow_69 at hF
    refine lv_iconst (v := -1) hx hb dX12_fitsRow_69 (by decide) ?_
    exact B70 σ x4 (-1) hF H locs ls hP hS (lv_sub hl [0, 1] rfl)
  have B32 : ∀ (σ : sm_S) (y0 : Int32), mp_X12_fitsRow_32 K σ y0 → sm_J p l e (headSpec wp_X12_fitsRow { frames := 3, cells := 0, slots := 0, locals := 66 }).room s m ([.ref (α.1 1), .int p1, .int p2, .int p3] : List Value).toArray below meth c (MQ below (va_Qi K (sm_B sm_wM D α) A) ([.ref (α.1 1), .int p1, .int p2, .int p3] : List Value).toArray s 0 0 A) D A 6 (sm_wM σ α) 32 [] [.int y0] := by
    intro σ y0 hF H locs ls hP hS hl
    unfold mp_X12_fitsRow_32 at hF
    obtain ⟨h21, hF⟩ := hF
    exact W.zret (v := y0) hx hb hr h21.1 (fun t ht hW => ⟨⟨y0, σ, rfl, hF, (by unfold sm_B; rw [ht]; exact hP)⟩, hS.F ht⟩) hS.2.2 dX12_fitsRow_32
  have B31 : ∀ (σ : sm_S), mp_X12_fitsRow_31 K σ → sm_J p l e (headSpec wp_X12_fitsRow { frames := 3, cells := 0, slots := 0, locals := 66 }).room s m ([.ref (α.1 1), .int p1, .int p2, .int p3] : List Value).toArray below meth c (MQ below (va_Qi K (sm_B sm_wM D α) A) ([.ref (α.1 1), .int p1, .int p2, .int p3] : List Value).toArray s 0 0 A) D A 6 (sm_wM σ α) 31 [] [] := by
    intro σ hF H locs ls hP hS hl
    unfold mp_X12_fitsRow_31 at hF
    refine lv_iconst (v := 0) hx hb dX12_fitsRow_31 (by decide) ?_
    exact B32 σ 0 hF H locs ls hP hS (lv_sub hl [] rfl)
  unfold mp_X12_fitsRow at hF
  revert hP hS
  generalize hLo : ([] : List Loc) = locs
  suffices h9 : ∀ (H : Heap) (locs : List Loc), va_P D vwCl (sm_wM σ α) H → va_S A s.heap H locs → W p l e (headSpec wp_X12_fitsRow { frames := 3, cells := 0, slots := 0, locals := 66 }).room s m ([.ref (α.1 1), .int p1, .int p2, .int p3] : List Value).toArray below meth c H locs 0 0 (MQ below (va_Qi K (sm_B sm_wM D α) A) ([.ref (α.1 1), .int p1, .int p2, .int p3] : List Value).toArray s 0 0 A) (F0 m 0 ls []) from fun hP hS => h9 s.heap locs hP hS
  intro H locs hP hS
  refine lv_iload_n hx hb dX12_fitsRow_0 rfl (lv_at hl 2 rfl) ?_
  refine lv_bipush (v := 31) hx hb dX12_fitsRow_1 (by decide) ?_
  refine lv_icmp_ne (tgt := 33) hx hb dX12_fitsRow_3 (by decide) (fun h22 => ?_) (fun h22 => ?_)
  · replace hF := hF.1 h22
    refine lv_iload_n hx hb dX12_fitsRow_33 rfl (lv_at hl 2 rfl) ?_
    refine lv_bipush (v := 34) hx hb dX12_fitsRow_34 (by decide) ?_
    refine lv_icmp_ne (tgt := 107) hx hb dX12_fitsRow_36 (by decide) (fun h23 => ?_) (fun h23 => ?_)
    · replace hF := hF.1 h23
      refine lv_iload_n hx hb dX12_fitsRow_107 rfl (lv_at hl 2 rfl) ?_
      refine lv_bipush (v := 32) hx hb dX12_fitsRow_108 (by decide) ?_
      refine lv_icmp_eq (tgt := 122) hx hb dX12_fitsRow_110 (by decide) (fun h24 => ?_) (fun h24 => ?_)
      · replace hF := hF.1 h24
        exact B122 σ p1 p2 hF H locs ls hP hS (lv_sub hl [0, 1, 2] rfl)
      · replace hF := hF.2 h24
        refine lv_aload_n hx hb dX12_fitsRow_113 rfl (lv_at hl 0 rfl) ?_
        refine lv_iload_n hx hb dX12_fitsRow_114 rfl (lv_at hl 1 rfl) ?_
        refine lv_iconst (v := 1) hx hb dX12_fitsRow_115 (by decide) ?_
        refine sm_vi (As := [.int p1, .int 1]) (rest := []) hP hK hD hE hS hA ⟨hx, hb, hml, hown, hts⟩ hl.1 (c_X12_popInts l D H.size t0 σ α p1 1 _ hF) (cwV 2 hts wg_X12_fitsRow_X12_popInts_83 rfl rfl rfl (by decide +kernel) ⟨Nat.le_of_ble_eq_true rfl, Nat.le_of_ble_eq_true rfl⟩) (va_recv hK hP (ci := 12) (q0 := 1) rfl (sm_gX12 σ α)) rfl rfl (Nat.le_of_ble_eq_true rfl) dX12_fitsRow_116 ⟨Nat.zero_le _, Nat.zero_le _⟩ (fun r26 σ25 H locs hF hP hS => ?_)
        refine lv_if_eq (tgt := 130) hx hb dX12_fitsRow_119 (by decide) (fun h27 => ?_) (fun h27 => ?_)
        · replace hF := hF.1 h27
          refine lv_iconst (v := -1) hx hb dX12_fitsRow_130 (by decide) ?_
          exact B131 σ25 p1 p2 (-1) hF H locs ls hP hS (lv_sub hl [0, 1, 2] rfl)
        · replace hF := hF.2 h27
          exact B122 σ25 p1 p2 hF H locs ls hP hS (lv_sub hl [0, 1, 2] rfl)
    · replace hF := hF.2 h23
      refine lv_aload_n hx hb dX12_fitsRow_39 rfl (lv_at hl 0 rfl) ?_
      refine lv_iload_n hx hb dX12_fitsRow_40 rfl (lv_at hl 1 rfl) ?_
      refine sm_vi (As := [.int p1]) (rest := []) hP hK hD hE hS hA ⟨hx, hb, hml, hown, hts⟩ hl.1 (c_X12_pop l D H.size t0 σ α p1 _ hF) (cwV 1 hts wg_X12_fitsRow_X12_pop_61 rfl rfl rfl (by decide +kernel) ⟨Nat.le_of_ble_eq_true rfl, Nat.le_of_ble_eq_true rfl⟩) (va_recv hK hP (ci := 12) (q0 := 1) rfl (sm_gX12 σ α)) rfl rfl (Nat.le_of_ble_eq_true rfl) dX12_fitsRow_41 ⟨Nat.zero_le _, Nat.zero_le _⟩ (fun r29 σ28 H locs hF hP hS => ?_)
      refine lv_istore (lv' := [(4, .int r29), (0, .ref (α.1 1)), (1, .int p1), (2, .int p2), (3, .int p3)]) hx hb dX12_fitsRow_44 hl (by decide) rfl (fun ls hl => ?_)
      refine lv_iload hx hb dX12_fitsRow_46 (lv_at hl 0 rfl) ?_
      refine lv_iconst (v := -1) hx hb dX12_fitsRow_48 (by decide) ?_
      refine lv_icmp_eq (tgt := 69) hx hb dX12_fitsRow_49 (by decide) (fun h30 => ?_) (fun h30 => ?_)
      · replace hF := hF.1 h30
        exact B69 σ28 r29 hF H locs ls hP hS (lv_sub hl [1, 0] rfl)
      · replace hF := hF.2 h30
        refine lv_aload_n hx hb dX12_fitsRow_52 rfl (lv_at hl 1 rfl) ?_
        refine lv_iload_n hx hb dX12_fitsRow_53 rfl (lv_at hl 2 rfl) ?_
        refine lv_iconst (v := 1) hx hb dX12_fitsRow_54 (by decide) ?_
        refine sm_vi (As := [.int p1, .int 1]) (rest := []) hP hK hD hE hS hA ⟨hx, hb, hml, hown, hts⟩ hl.1 (c_X12_popInts l D H.size t0 σ28 α p1 1 _ hF) (cwV 2 hts wg_X12_fitsRow_X12_popInts_83 rfl rfl rfl (by decide +kernel) ⟨Nat.le_of_ble_eq_true rfl, Nat.le_of_ble_eq_true rfl⟩) (va_recv hK hP (ci := 12) (q0 := 1) rfl (sm_gX12 σ28 α)) rfl rfl (Nat.le_of_ble_eq_true rfl) dX12_fitsRow_55 ⟨Nat.zero_le _, Nat.zero_le _⟩ (fun r32 σ31 H locs hF hP hS => ?_)
        refine lv_if_eq (tgt := 69) hx hb dX12_fitsRow_58 (by decide) (fun h33 => ?_) (fun h33 => ?_)
        · replace hF := hF.1 h33
          exact B69 σ31 r29 hF H locs ls hP hS (lv_sub hl [1, 0] rfl)
        · replace hF := hF.2 h33
          refine lv_aload_n hx hb dX12_fitsRow_61 rfl (lv_at hl 1 rfl) ?_
          refine lv_iload_n hx hb dX12_fitsRow_62 rfl (lv_at hl 2 rfl) ?_
          refine sm_vi (As := [.int p1]) (rest := []) hP hK hD hE hS hA ⟨hx, hb, hml, hown, hts⟩ hl.1 (c_X12_pop l D H.size t0 σ31 α p1 _ hF) (cwV 1 hts wg_X12_fitsRow_X12_pop_61 rfl rfl rfl (by decide +kernel) ⟨Nat.le_of_ble_eq_true rfl, Nat.le_of_ble_eq_true rfl⟩) (va_recv hK hP (ci := 12) (q0 := 1) rfl (sm_gX12 σ31 α)) rfl rfl (Nat.le_of_ble_eq_true rfl) dX12_fitsRow_63 ⟨Nat.zero_le _, Nat.zero_le _⟩ (fun r35 σ34 H locs hF hP hS => ?_)
          refine lv_goto (tgt := 70) hx hb dX12_fitsRow_66 (by decide) ?_
          exact B70 σ34 r29 r35 hF H locs ls hP hS (lv_sub hl [1, 0] rfl)
  · replace hF := hF.2 h22
    refine lv_aload_n hx hb dX12_fitsRow_6 rfl (lv_at hl 0 rfl) ?_
    refine lv_iload_n hx hb dX12_fitsRow_7 rfl (lv_at hl 1 rfl) ?_
    refine lv_iconst (v := 1) hx hb dX12_fitsRow_8 (by decide) ?_
    refine sm_vi (As := [.int p1, .int 1]) (rest := []) hP hK hD hE hS hA ⟨hx, hb, hml, hown, hts⟩ hl.1 (c_X12_popInts l D H.size t0 σ α p1 1 _ hF) (cwV 2 hts wg_X12_fitsRow_X12_popInts_83 rfl rfl rfl (by decide +kernel) ⟨Nat.le_of_ble_eq_true rfl, Nat.le_of_ble_eq_true rfl⟩) (va_recv hK hP (ci := 12) (q0 := 1) rfl (sm_gX12 σ α)) rfl rfl (Nat.le_of_ble_eq_true rfl) dX12_fitsRow_9 ⟨Nat.zero_le _, Nat.zero_le _⟩ (fun r37 σ36 H locs hF hP hS => ?_)
    refine lv_if_eq (tgt := 31) hx hb dX12_fitsRow_12 (by decide) (fun h38 => ?_) (fun h38 => ?_)
    · replace hF := hF.1 h38
      exact B31 σ36 hF H locs ls hP hS (lv_sub hl [] rfl)
    · replace hF := hF.2 h38
      refine lv_aload_n hx hb dX12_fitsRow_15 rfl (lv_at hl 0 rfl) ?_
      refine lv_iload_n hx hb dX12_fitsRow_16 rfl (lv_at hl 1 rfl) ?_
      refine lv_bipush (v := 64) hx hb dX12_fitsRow_17 (by decide) ?_
      refine lv_iload_n hx hb dX12_fitsRow_19 rfl (lv_at hl 3 rfl) ?_
      refine lv_iadd hx hb dX12_fitsRow_20 ?_
      refine sm_vi (As := [.int p1, .int (64 + p3)]) (rest := []) hP hK hD hE hS hA ⟨hx, hb, hml, hown, hts⟩ hl.1 (c_X12_push l D H.size t0 σ36 α p1 (64 + p3) _ hF) (cwV 2 hts wg_X12_fitsRow_X12_push_80 rfl rfl rfl (by decide +kernel) ⟨Nat.le_of_ble_eq_true rfl, Nat.le_of_ble_eq_true rfl⟩) (va_recv hK hP (ci := 12) (q0 := 1) rfl (sm_gX12 σ36 α)) rfl rfl (Nat.le_of_ble_eq_true rfl) dX12_fitsRow_21 ⟨Nat.zero_le _, Nat.zero_le _⟩ (fun r40 σ39 H locs hF hP hS => ?_)
      refine lv_if_eq (tgt := 31) hx hb dX12_fitsRow_24 (by decide) (fun h41 => ?_) (fun h41 => ?_)
      · replace hF := hF.1 h41
        exact B31 σ39 hF H locs ls hP hS (lv_sub hl [] rfl)
      · replace hF := hF.2 h41
        refine lv_iconst (v := 1) hx hb dX12_fitsRow_27 (by decide) ?_
        refine lv_goto (tgt := 32) hx hb dX12_fitsRow_28 (by decide) ?_
        exact B32 σ39 1 hF H locs ls hP hS (lv_sub hl [] rfl)
theorem dX12_fitsPlace_0 : decode cX12_fitsPlace 0 = .ok (.iload_n 2, 1) := by decide +kernel
theorem dX12_fitsPlace_1 : decode cX12_fitsPlace 1 = .ok (.iconst 2, 1) := by decide +kernel
theorem dX12_fitsPlace_2 : decode cX12_fitsPlace 2 = .ok (.if_icmp .ne 34, 3) := by decide +kernel
theorem dX12_fitsPlace_5 : decode cX12_fitsPlace 5 = .ok (.aload_n 0, 1) := by decide +kernel
theorem dX12_fitsPlace_6 : decode cX12_fitsPlace 6 = .ok (.getfield 44, 3) := by decide +kernel
theorem dX12_fitsPlace_9 : decode cX12_fitsPlace 9 = .ok (.iload_n 3, 1) := by decide +kernel
theorem dX12_fitsPlace_10 : decode cX12_fitsPlace 10 = .ok (.iaload, 1) := by decide +kernel
theorem dX12_fitsPlace_11 : decode cX12_fitsPlace 11 = .ok (.bipush 99, 2) := by decide +kernel
theorem dX12_fitsPlace_13 : decode cX12_fitsPlace 13 = .ok (.if_icmp .eq 21, 3) := by decide +kernel
theorem dX12_fitsPlace_16 : decode cX12_fitsPlace 16 = .ok (.aload_n 0, 1) := by decide +kernel
theorem dX12_fitsPlace_17 : decode cX12_fitsPlace 17 = .ok (.iload_n 1, 1) := by decide +kernel
theorem dX12_fitsPlace_18 : decode cX12_fitsPlace 18 = .ok (.aload_n 0, 1) := by decide +kernel
theorem dX12_fitsPlace_19 : decode cX12_fitsPlace 19 = .ok (.getfield 44, 3) := by decide +kernel
theorem dX12_fitsPlace_22 : decode cX12_fitsPlace 22 = .ok (.iload_n 3, 1) := by decide +kernel
theorem dX12_fitsPlace_23 : decode cX12_fitsPlace 23 = .ok (.iaload, 1) := by decide +kernel
theorem dX12_fitsPlace_24 : decode cX12_fitsPlace 24 = .ok (.invokevirtual 80, 3) := by decide +kernel
theorem dX12_fitsPlace_27 : decode cX12_fitsPlace 27 = .ok (.ifCond .eq 7, 3) := by decide +kernel
theorem dX12_fitsPlace_30 : decode cX12_fitsPlace 30 = .ok (.iconst 1, 1) := by decide +kernel
theorem dX12_fitsPlace_31 : decode cX12_fitsPlace 31 = .ok (.goto 4, 3) := by decide +kernel
theorem dX12_fitsPlace_34 : decode cX12_fitsPlace 34 = .ok (.iconst 0, 1) := by decide +kernel
theorem dX12_fitsPlace_35 : decode cX12_fitsPlace 35 = .ok (.ireturn, 1) := by decide +kernel
theorem dX12_fitsPlace_36 : decode cX12_fitsPlace 36 = .ok (.aload_n 0, 1) := by decide +kernel
theorem dX12_fitsPlace_37 : decode cX12_fitsPlace 37 = .ok (.iload_n 1, 1) := by decide +kernel
theorem dX12_fitsPlace_38 : decode cX12_fitsPlace 38 = .ok (.invokevirtual 61, 3) := by decide +kernel
theorem dX12_fitsPlace_41 : decode cX12_fitsPlace 41 = .ok (.istore 4, 2) := by decide +kernel
theorem dX12_fitsPlace_43 : decode cX12_fitsPlace 43 = .ok (.iload 4, 2) := by decide +kernel
theorem dX12_fitsPlace_45 : decode cX12_fitsPlace 45 = .ok (.iconst (-1), 1) := by decide +kernel
theorem dX12_fitsPlace_46 : decode cX12_fitsPlace 46 = .ok (.if_icmp .ne 5, 3) := by decide +kernel
theorem dX12_fitsPlace_49 : decode cX12_fitsPlace 49 = .ok (.iconst 0, 1) := by decide +kernel
theorem dX12_fitsPlace_50 : decode cX12_fitsPlace 50 = .ok (.ireturn, 1) := by decide +kernel
theorem dX12_fitsPlace_51 : decode cX12_fitsPlace 51 = .ok (.iload_n 2, 1) := by decide +kernel
theorem dX12_fitsPlace_52 : decode cX12_fitsPlace 52 = .ok (.tableswitch 66 3 5 #[28, 38, 40], 28) := by decide +kernel
theorem dX12_fitsPlace_80 : decode cX12_fitsPlace 80 = .ok (.aload_n 0, 1) := by decide +kernel
theorem dX12_fitsPlace_81 : decode cX12_fitsPlace 81 = .ok (.getfield 44, 3) := by decide +kernel
theorem dX12_fitsPlace_84 : decode cX12_fitsPlace 84 = .ok (.iload_n 3, 1) := by decide +kernel
theorem dX12_fitsPlace_85 : decode cX12_fitsPlace 85 = .ok (.iload 4, 2) := by decide +kernel
theorem dX12_fitsPlace_87 : decode cX12_fitsPlace 87 = .ok (.iastore, 1) := by decide +kernel
theorem dX12_fitsPlace_88 : decode cX12_fitsPlace 88 = .ok (.iconst 1, 1) := by decide +kernel
theorem dX12_fitsPlace_89 : decode cX12_fitsPlace 89 = .ok (.ireturn, 1) := by decide +kernel
theorem dX12_fitsPlace_90 : decode cX12_fitsPlace 90 = .ok (.iconst 1, 1) := by decide +kernel
theorem dX12_fitsPlace_91 : decode cX12_fitsPlace 91 = .ok (.ireturn, 1) := by decide +kernel
theorem dX12_fitsPlace_92 : decode cX12_fitsPlace 92 = .ok (.aload_n 0, 1) := by decide +kernel
theorem dX12_fitsPlace_93 : decode cX12_fitsPlace 93 = .ok (.iload_n 1, 1) := by decide +kernel
theorem dX12_fitsPlace_94 : decode cX12_fitsPlace 94 = .ok (.iload 4, 2) := by decide +kernel
theorem dX12_fitsPlace_96 : decode cX12_fitsPlace 96 = .ok (.invokevirtual 80, 3) := by decide +kernel
theorem dX12_fitsPlace_99 : decode cX12_fitsPlace 99 = .ok (.ifCond .eq 17, 3) := by decide +kernel
theorem dX12_fitsPlace_102 : decode cX12_fitsPlace 102 = .ok (.aload_n 0, 1) := by decide +kernel
theorem dX12_fitsPlace_103 : decode cX12_fitsPlace 103 = .ok (.iload_n 1, 1) := by decide +kernel
theorem dX12_fitsPlace_104 : decode cX12_fitsPlace 104 = .ok (.iload 4, 2) := by decide +kernel
theorem dX12_fitsPlace_106 : decode cX12_fitsPlace 106 = .ok (.invokevirtual 80, 3) := by decide +kernel
theorem dX12_fitsPlace_109 : decode cX12_fitsPlace 109 = .ok (.ifCond .eq 7, 3) := by decide +kernel
theorem dX12_fitsPlace_112 : decode cX12_fitsPlace 112 = .ok (.iconst 1, 1) := by decide +kernel
theorem dX12_fitsPlace_113 : decode cX12_fitsPlace 113 = .ok (.goto 4, 3) := by decide +kernel
theorem dX12_fitsPlace_116 : decode cX12_fitsPlace 116 = .ok (.iconst 0, 1) := by decide +kernel
theorem dX12_fitsPlace_117 : decode cX12_fitsPlace 117 = .ok (.ireturn, 1) := by decide +kernel
theorem dX12_fitsPlace_118 : decode cX12_fitsPlace 118 = .ok (.aload_n 0, 1) := by decide +kernel
theorem dX12_fitsPlace_119 : decode cX12_fitsPlace 119 = .ok (.iload_n 1, 1) := by decide +kernel
theorem dX12_fitsPlace_120 : decode cX12_fitsPlace 120 = .ok (.invokevirtual 61, 3) := by decide +kernel
theorem dX12_fitsPlace_123 : decode cX12_fitsPlace 123 = .ok (.istore 5, 2) := by decide +kernel
theorem dX12_fitsPlace_125 : decode cX12_fitsPlace 125 = .ok (.iload 5, 2) := by decide +kernel
theorem dX12_fitsPlace_127 : decode cX12_fitsPlace 127 = .ok (.iconst (-1), 1) := by decide +kernel
theorem dX12_fitsPlace_128 : decode cX12_fitsPlace 128 = .ok (.if_icmp .eq 27, 3) := by decide +kernel
theorem dX12_fitsPlace_131 : decode cX12_fitsPlace 131 = .ok (.aload_n 0, 1) := by decide +kernel
theorem dX12_fitsPlace_132 : decode cX12_fitsPlace 132 = .ok (.iload_n 1, 1) := by decide +kernel
theorem dX12_fitsPlace_133 : decode cX12_fitsPlace 133 = .ok (.iload 4, 2) := by decide +kernel
theorem dX12_fitsPlace_135 : decode cX12_fitsPlace 135 = .ok (.invokevirtual 80, 3) := by decide +kernel
theorem dX12_fitsPlace_138 : decode cX12_fitsPlace 138 = .ok (.ifCond .eq 17, 3) := by decide +kernel
theorem dX12_fitsPlace_141 : decode cX12_fitsPlace 141 = .ok (.aload_n 0, 1) := by decide +kernel
theorem dX12_fitsPlace_142 : decode cX12_fitsPlace 142 = .ok (.iload_n 1, 1) := by decide +kernel
theorem dX12_fitsPlace_143 : decode cX12_fitsPlace 143 = .ok (.iload 5, 2) := by decide +kernel
theorem dX12_fitsPlace_145 : decode cX12_fitsPlace 145 = .ok (.invokevirtual 80, 3) := by decide +kernel
theorem dX12_fitsPlace_148 : decode cX12_fitsPlace 148 = .ok (.ifCond .eq 7, 3) := by decide +kernel
theorem dX12_fitsPlace_151 : decode cX12_fitsPlace 151 = .ok (.iconst 1, 1) := by decide +kernel
theorem dX12_fitsPlace_152 : decode cX12_fitsPlace 152 = .ok (.goto 4, 3) := by decide +kernel
theorem dX12_fitsPlace_155 : decode cX12_fitsPlace 155 = .ok (.iconst 0, 1) := by decide +kernel
theorem dX12_fitsPlace_156 : decode cX12_fitsPlace 156 = .ok (.ireturn, 1) := by decide +kernel
def wp_X12_fitsPlace : List Cond := .code yX12_fitsPlace cX12_fitsPlace 6 (some .boolean) :: ((([.fieldLink RX12 44 "SteadyMachineModel" "now" "[I"] ++ (wsV RX12 61 RX12 yX12_pop wp_X12_pop)) ++ (wsV RX12 80 RX12 yX12_push wp_X12_push)) ++ wsX120)
theorem wq_X12_fitsPlace : wp_X12_fitsPlace.all goodWord = true := wa_c rfl (wa_a (wa_a (wa_a (by decide +kernel) (wa_V wq_X12_pop)) (wa_V wq_X12_push)) uq_X12)
theorem wt_X12_fitsPlace : GoodIn lw_tbl wp_X12_fitsPlace := wm_c (List.mem_of_getElem? (i := 1322) (by decide +kernel)) rfl (wm_a (wm_a (wm_a (goodIn_r _ [1494] (by decide +kernel) (by decide +kernel)) (wm_a (goodIn_r _ [1323, 1325, 93, 147] (by decide +kernel) (by decide +kernel)) wt_X12_pop)) (wm_a (goodIn_r _ [1311, 1313, 90, 147] (by decide +kernel) (by decide +kernel)) wt_X12_push)) ut_X12)
theorem wg_X12_fitsPlace_X12_pop_61 : GoodIn wp_X12_fitsPlace (wsV RX12 61 RX12 yX12_pop wp_X12_pop) := goodIn_sub (fun w h => List.mem_cons_of_mem _ (List.mem_append_left _ (List.mem_append_left _ (List.mem_append_right _ h)))) (wa_V wq_X12_pop)
theorem wg_X12_fitsPlace_X12_push_80 : GoodIn wp_X12_fitsPlace (wsV RX12 80 RX12 yX12_push wp_X12_push) := goodIn_sub (fun w h => List.mem_cons_of_mem _ (List.mem_append_left _ (List.mem_append_right _ h))) (wa_V wq_X12_push)
theorem wi_X12_fitsPlace_X12 : ∀ w ∈ wsX120, w ∈ wp_X12_fitsPlace := fun w h => List.mem_cons_of_mem _ (List.mem_append_right _ h)
set_option maxHeartbeats 4000000 in
set_option maxRecDepth 100000 in
theorem c_X12_fitsPlace (l : Launch) (D : va_G) (sz t0 : Nat) (σ : sm_S) (α : sm_A) (p1 : Int32) (p2 : Int32) (p3 : Int32) (K : Int32 → sm_S → Prop) (hF : mp_X12_fitsPlace σ p1 p2 p3 K) : Met l yX12_fitsPlace wp_X12_fitsPlace { frames := 1, cells := 0, slots := 0, locals := 22 } (sm_P sm_wM sm_tM 40 D sz t0 σ α [.ref (α.1 1), .int p1, .int p2, .int p3]) (va_Qi K (sm_B sm_wM D α) (sm_a α 40 sz)) 0 0 (sm_a α 40 sz) := by
  refine Met.ofW (cc := cX12_fitsPlace) (maxL := 6) (ret := (some .boolean)) (by decide) rfl ?_
  intro p e s m args below meth c s₁ B hml hv
  obtain ⟨rfl, hsz, hP, hK, hD0, hE⟩ := hv
  have hx := B.exec
  have hb := B.bytes
  have hr := B.returns
  have hts := atoms_spec (ws := wp_X12_fitsPlace) B.pre
  have hown : s.vm.findClass RX12 = some m.cls := findClass_of_methodNamed B.named
  have hlocks := B.notSynchronized
  subst hsz
  have hD : sm_D (sm_a α 40 s.heap.size) α 40 := hD0.own
  have hA : ∀ q : Nat, s.heap.size ≤ q → sm_a α 40 s.heap.size q := fun q h => Or.inr h
  generalize hAe : sm_a α 40 s.heap.size = A at hD hA hE ⊢
  have hS : va_S A s.heap s.heap [] := va_S.rf
  have in_X12 : ∀ w ∈ wsX120, w ∈ wp_X12_fitsPlace := wi_X12_fitsPlace_X12
  have k_0 := hts (.fieldLink RX12 44 "SteadyMachineModel" "now" "[I") (by decide +kernel)
  have hl := lv_entry ([.ref (α.1 1), .int p1, .int p2, .int p3]) (n := 6) (Nat.le_of_ble_eq_true rfl)
  rw [lg_entry_eq]
  generalize (lg_sl ([.ref (α.1 1), .int p1, .int p2, .int p3]) ++ List.replicate (6 - (lg_sl ([.ref (α.1 1), .int p1, .int p2, .int p3])).length) Slot.unset).toArray = ls at hl ⊢
  have hl : lv_has ls 6 [(0, .ref (α.1 1)), (1, .int p1), (2, .int p2), (3, .int p3)] := hl
  have B156 : ∀ (σ : sm_S) (y0 : Int32), mp_X12_fitsPlace_156 K σ y0 → sm_J p l e (headSpec wp_X12_fitsPlace { frames := 1, cells := 0, slots := 0, locals := 22 }).room s m ([.ref (α.1 1), .int p1, .int p2, .int p3] : List Value).toArray below meth c (MQ below (va_Qi K (sm_B sm_wM D α) A) ([.ref (α.1 1), .int p1, .int p2, .int p3] : List Value).toArray s 0 0 A) D A 6 (sm_wM σ α) 156 [] [.int y0] := by
    intro σ y0 hF H locs ls hP hS hl
    unfold mp_X12_fitsPlace_156 at hF
    obtain ⟨h1, hF⟩ := hF
    exact W.zret (v := y0) hx hb hr h1.1 (fun t ht hW => ⟨⟨y0, σ, rfl, hF, (by unfold sm_B; rw [ht]; exact hP)⟩, hS.F ht⟩) hS.2.2 dX12_fitsPlace_156
  have B155 : ∀ (σ : sm_S), mp_X12_fitsPlace_155 K σ → sm_J p l e (headSpec wp_X12_fitsPlace { frames := 1, cells := 0, slots := 0, locals := 22 }).room s m ([.ref (α.1 1), .int p1, .int p2, .int p3] : List Value).toArray below meth c (MQ below (va_Qi K (sm_B sm_wM D α) A) ([.ref (α.1 1), .int p1, .int p2, .int p3] : List Value).toArray s 0 0 A) D A 6 (sm_wM σ α) 155 [] [] := by
    intro σ hF H locs ls hP hS hl
    unfold mp_X12_fitsPlace_155 at hF
    refine lv_iconst (v := 0) hx hb dX12_fitsPlace_155 (by decide) ?_
    exact B156 σ 0 hF H locs ls hP hS (lv_sub hl [] rfl)
  have B117 : ∀ (σ : sm_S) (y0 : Int32), mp_X12_fitsPlace_117 K σ y0 → sm_J p l e (headSpec wp_X12_fitsPlace { frames := 1, cells := 0, slots := 0, locals := 22 }).room s m ([.ref (α.1 1), .int p1, .int p2, .int p3] : List Value).toArray below meth c (MQ below (va_Qi K (sm_B sm_wM D α) A) ([.ref (α.1 1), .int p1, .int p2, .int p3] : List Value).toArray s 0 0 A) D A 6 (sm_wM σ α) 117 [] [.int y0] := by
    intro σ y0 hF H locs ls hP hS hl
    unfold mp_X12_fitsPlace_117 at hF
    obtain ⟨h2, hF⟩ := hF
    exact W.zret (v := y0) hx hb hr h2.1 (fun t ht hW => ⟨⟨y0, σ, rfl, hF, (by unfold sm_B; rw [ht]; exact hP)⟩, hS.F ht⟩) hS.2.2 dX12_fitsPlace_117
  have B116 : ∀ (σ : sm_S), mp_X12_fitsPlace_116 K σ → sm_J p l e (headSpec wp_X12_fitsPlace { frames := 1, cells := 0, slots := 0, locals := 22 }).room s m ([.ref (α.1 1), .int p1, .int p2, .int p3] : List Value).toArray below meth c (MQ below (va_Qi K (sm_B sm_wM D α) A) ([.ref (α.1 1), .int p1, .int p2, .int p3] : List Value).toArray s 0 0 A) D A 6 (sm_wM σ α) 116 [] [] := by
    intro σ hF H locs ls hP hS hl
    unfold mp_X12_fitsPlace_116 at hF
    refine lv_iconst (v := 0) hx hb dX12_fitsPlace_116 (by decide) ?_
    exact B117 σ 0 hF H locs ls hP hS (lv_sub hl [] rfl)
  have B35 : ∀ (σ : sm_S) (y0 : Int32), mp_X12_fitsPlace_35 K σ y0 → sm_J p l e (headSpec wp_X12_fitsPlace { frames := 1, cells := 0, slots := 0, locals := 22 }).room s m ([.ref (α.1 1), .int p1, .int p2, .int p3] : List Value).toArray below meth c (MQ below (va_Qi K (sm_B sm_wM D α) A) ([.ref (α.1 1), .int p1, .int p2, .int p3] : List Value).toArray s 0 0 A) D A 6 (sm_wM σ α) 35 [] [.int y0] := by
    intro σ y0 hF H locs ls hP hS hl
    unfold mp_X12_fitsPlace_35 at hF
    obtain ⟨h3, hF⟩ := hF
    exact W.zret (v := y0) hx hb hr h3.1 (fun t ht hW => ⟨⟨y0, σ, rfl, hF, (by unfold sm_B; rw [ht]; exact hP)⟩, hS.F ht⟩) hS.2.2 dX12_fitsPlace_35
  have B34 : ∀ (σ : sm_S), mp_X12_fitsPlace_34 K σ → sm_J p l e (headSpec wp_X12_fitsPlace { frames := 1, cells := 0, slots := 0, locals := 22 }).room s m ([.ref (α.1 1), .int p1, .int p2, .int p3] : List Value).toArray below meth c (MQ below (va_Qi K (sm_B sm_wM D α) A) ([.ref (α.1 1), .int p1, .int p2, .int p3] : List Value).toArray s 0 0 A) D A 6 (sm_wM σ α) 34 [] [] := by
    intro σ hF H locs ls hP hS hl
    unfold mp_X12_fitsPlace_34 at hF
    refine lv_iconst (v := 0) hx hb dX12_fitsPlace_34 (by decide) ?_
    exact B35 σ 0 hF H locs ls hP hS (lv_sub hl [] rfl)
  unfold mp_X12_fitsPlace at hF
  revert hP hS
  generalize hLo : ([] : List Loc) = locs
  suffices h9 : ∀ (H : Heap) (locs : List Loc), va_P D vwCl (sm_wM σ α) H → va_S A s.heap H locs → W p l e (headSpec wp_X12_fitsPlace { frames := 1, cells := 0, slots := 0, locals := 22 }).room s m ([.ref (α.1 1), .int p1, .int p2, .int p3] : List Value).toArray below meth c H locs 0 0 (MQ below (va_Qi K (sm_B sm_wM D α) A) ([.ref (α.1 1), .int p1, .int p2, .int p3] : List Value).toArray s 0 0 A) (F0 m 0 ls []) from fun hP hS => h9 s.heap locs hP hS
  intro H locs hP hS
  refine lv_iload_n hx hb dX12_fitsPlace_0 rfl (lv_at hl 2 rfl) ?_
  refine lv_iconst (v := 2) hx hb dX12_fitsPlace_1 (by decide) ?_
  refine lv_icmp_ne (tgt := 36) hx hb dX12_fitsPlace_2 (by decide) (fun h4 => ?_) (fun h4 => ?_)
  · replace hF := hF.1 h4
    refine lv_aload_n hx hb dX12_fitsPlace_36 rfl (lv_at hl 0 rfl) ?_
    refine lv_iload_n hx hb dX12_fitsPlace_37 rfl (lv_at hl 1 rfl) ?_
    refine sm_vi (As := [.int p1]) (rest := []) hP hK hD hE hS hA ⟨hx, hb, hml, hown, hts⟩ hl.1 (c_X12_pop l D H.size t0 σ α p1 _ hF) (cwV 1 hts wg_X12_fitsPlace_X12_pop_61 rfl rfl rfl (by decide +kernel) ⟨Nat.le_of_ble_eq_true rfl, Nat.le_of_ble_eq_true rfl⟩) (va_recv hK hP (ci := 12) (q0 := 1) rfl (sm_gX12 σ α)) rfl rfl (Nat.le_of_ble_eq_true rfl) dX12_fitsPlace_38 ⟨Nat.zero_le _, Nat.zero_le _⟩ (fun r6 σ5 H locs hF hP hS => ?_)
    refine lv_istore (lv' := [(4, .int r6), (0, .ref (α.1 1)), (1, .int p1), (2, .int p2), (3, .int p3)]) hx hb dX12_fitsPlace_41 hl (by decide) rfl (fun ls hl => ?_)
    refine lv_iload hx hb dX12_fitsPlace_43 (lv_at hl 0 rfl) ?_
    refine lv_iconst (v := -1) hx hb dX12_fitsPlace_45 (by decide) ?_
    refine lv_icmp_ne (tgt := 51) hx hb dX12_fitsPlace_46 (by decide) (fun h7 => ?_) (fun h7 => ?_)
    · replace hF := hF.1 h7
      refine lv_iload_n hx hb dX12_fitsPlace_51 rfl (lv_at hl 3 rfl) ?_
      obtain ⟨gh8, hF⟩ := hF
      by_cases h8 : p2 = 3
      · refine lv_tableIn (tgt := 80) hx hb dX12_fitsPlace_52 (by rw [h8]; decide) (by rw [h8]; decide) (by rw [h8]; rfl) (by decide) ?_
        clear hF
        have hF := gh8 h8
        clear gh8
        refine lv_aload_n hx hb dX12_fitsPlace_80 rfl (lv_at hl 1 rfl) ?_
        refine va_get (D := D) (ci := 12) (v := .ref (α.1 24)) (C := RX12) (T := TX12) (N := 42) hx hb hts in_X12 hown hK hP 1 (sm_gX12 σ5 α) rfl 4 (by decide) k_0 (fun _ h9 => h9) rfl dX12_fitsPlace_81 ?_
        refine lv_iload_n hx hb dX12_fitsPlace_84 rfl (lv_at hl 4 rfl) ?_
        refine lv_iload hx hb dX12_fitsPlace_85 (lv_at hl 0 rfl) ?_
        obtain ⟨h9, hF⟩ := hF
        refine va_iast (n := (σ5.2.2.1 24)) (f := (σ5.2.2.2.1 24)) (x := r6) hx hb hK hP (hD.to (sm_wM_m _ _)) hS 24 22 (sm_aM24 σ5 α) (sm_yM24 α) h9 dX12_fitsPlace_87 (fun H locs hP _ hS => ?_)
        rw [sm_rM24] at hP
        obtain ⟨σ10, eσ10⟩ : ∃ x : sm_S, x = sm_r σ5 24 (upd (σ5.2.2.2.1 24) p3.toNatClampNeg r6) := ⟨_, rfl⟩
        replace hF := hF σ10 eσ10
        rw [← eσ10] at hP
        refine lv_iconst (v := 1) hx hb dX12_fitsPlace_88 (by decide) ?_
        exact W.zret (v := 1) hx hb hr sm_z1.1 (fun t ht hW => ⟨⟨1, σ10, rfl, hF, (by unfold sm_B; rw [ht]; exact hP)⟩, hS.F ht⟩) hS.2.2 dX12_fitsPlace_89
      clear gh8
      obtain ⟨gh11, hF⟩ := hF
      by_cases h11 : p2 = 4
      · refine lv_tableIn (tgt := 90) hx hb dX12_fitsPlace_52 (by rw [h11]; decide) (by rw [h11]; decide) (by rw [h11]; rfl) (by decide) ?_
        clear hF
        have hF := gh11 h11
        clear gh11
        refine lv_iconst (v := 1) hx hb dX12_fitsPlace_90 (by decide) ?_
        exact W.zret (v := 1) hx hb hr sm_z1.1 (fun t ht hW => ⟨⟨1, σ5, rfl, hF, (by unfold sm_B; rw [ht]; exact hP)⟩, hS.F ht⟩) hS.2.2 dX12_fitsPlace_91
      clear gh11
      obtain ⟨gh12, hF⟩ := hF
      by_cases h12 : p2 = 5
      · refine lv_tableIn (tgt := 92) hx hb dX12_fitsPlace_52 (by rw [h12]; decide) (by rw [h12]; decide) (by rw [h12]; rfl) (by decide) ?_
        clear hF
        have hF := gh12 h12
        clear gh12
        refine lv_aload_n hx hb dX12_fitsPlace_92 rfl (lv_at hl 1 rfl) ?_
        refine lv_iload_n hx hb dX12_fitsPlace_93 rfl (lv_at hl 2 rfl) ?_
        refine lv_iload hx hb dX12_fitsPlace_94 (lv_at hl 0 rfl) ?_
        refine sm_vi (As := [.int p1, .int r6]) (rest := []) hP hK hD hE hS hA ⟨hx, hb, hml, hown, hts⟩ hl.1 (c_X12_push l D H.size t0 σ5 α p1 r6 _ hF) (cwV 2 hts wg_X12_fitsPlace_X12_push_80 rfl rfl rfl (by decide +kernel) ⟨Nat.le_of_ble_eq_true rfl, Nat.le_of_ble_eq_true rfl⟩) (va_recv hK hP (ci := 12) (q0 := 1) rfl (sm_gX12 σ5 α)) rfl rfl (Nat.le_of_ble_eq_true rfl) dX12_fitsPlace_96 ⟨Nat.zero_le _, Nat.zero_le _⟩ (fun r14 σ13 H locs hF hP hS => ?_)
        refine lv_if_eq (tgt := 116) hx hb dX12_fitsPlace_99 (by decide) (fun h15 => ?_) (fun h15 => ?_)
        · replace hF := hF.1 h15
          exact B116 σ13 hF H locs ls hP hS (lv_sub hl [] rfl)
        · replace hF := hF.2 h15
          refine lv_aload_n hx hb dX12_fitsPlace_102 rfl (lv_at hl 1 rfl) ?_
          refine lv_iload_n hx hb dX12_fitsPlace_103 rfl (lv_at hl 2 rfl) ?_
          refine lv_iload hx hb dX12_fitsPlace_104 (lv_at hl 0 rfl) ?_
          refine sm_vi (As := [.int p1, .int r6]) (rest := []) hP hK hD hE hS hA ⟨hx, hb, hml, hown, hts⟩ hl.1 (c_X12_push l D H.size t0 σ13 α p1 r6 _ hF) (cwV 2 hts wg_X12_fitsPlace_X12_push_80 rfl rfl rfl (by decide +kernel) ⟨Nat.le_of_ble_eq_true rfl, Nat.le_of_ble_eq_true rfl⟩) (va_recv hK hP (ci := 12) (q0 := 1) rfl (sm_gX12 σ13 α)) rfl rfl (Nat.le_of_ble_eq_true rfl) dX12_fitsPlace_106 ⟨Nat.zero_le _, Nat.zero_le _⟩ (fun r17 σ16 H locs hF hP hS => ?_)
          refine lv_if_eq (tgt := 116) hx hb dX12_fitsPlace_109 (by decide) (fun h18 => ?_) (fun h18 => ?_)
          · replace hF := hF.1 h18
            exact B116 σ16 hF H locs ls hP hS (lv_sub hl [] rfl)
          · replace hF := hF.2 h18
            refine lv_iconst (v := 1) hx hb dX12_fitsPlace_112 (by decide) ?_
            refine lv_goto (tgt := 117) hx hb dX12_fitsPlace_113 (by decide) ?_
            exact B117 σ16 1 hF H locs ls hP hS (lv_sub hl [] rfl)
      clear gh12
      refine lv_tableOut (tgt := 118) hx hb dX12_fitsPlace_52 (by have q0 := lv_neT h8 (show Int32.toInt 3 = 3 by decide); have q1 := lv_neT h11 (show Int32.toInt 4 = 4 by decide); have q2 := lv_neT h12 (show Int32.toInt 5 = 5 by decide); omega) (by decide) ?_
      replace hF := hF h8 h11 h12
      refine lv_aload_n hx hb dX12_fitsPlace_118 rfl (lv_at hl 1 rfl) ?_
      refine lv_iload_n hx hb dX12_fitsPlace_119 rfl (lv_at hl 2 rfl) ?_
      refine sm_vi (As := [.int p1]) (rest := []) hP hK hD hE hS hA ⟨hx, hb, hml, hown, hts⟩ hl.1 (c_X12_pop l D H.size t0 σ5 α p1 _ hF) (cwV 1 hts wg_X12_fitsPlace_X12_pop_61 rfl rfl rfl (by decide +kernel) ⟨Nat.le_of_ble_eq_true rfl, Nat.le_of_ble_eq_true rfl⟩) (va_recv hK hP (ci := 12) (q0 := 1) rfl (sm_gX12 σ5 α)) rfl rfl (Nat.le_of_ble_eq_true rfl) dX12_fitsPlace_120 ⟨Nat.zero_le _, Nat.zero_le _⟩ (fun r20 σ19 H locs hF hP hS => ?_)
      refine lv_istore (lv' := [(5, .int r20), (4, .int r6), (0, .ref (α.1 1)), (1, .int p1), (2, .int p2), (3, .int p3)]) hx hb dX12_fitsPlace_123 hl (by decide) rfl (fun ls hl => ?_)
      refine lv_iload hx hb dX12_fitsPlace_125 (lv_at hl 0 rfl) ?_
      refine lv_iconst (v := -1) hx hb dX12_fitsPlace_127 (by decide) ?_
      refine lv_icmp_eq (tgt := 155) hx hb dX12_fitsPlace_128 (by decide) (fun h21 => ?_) (fun h21 => ?_)
      · replace hF := hF.1 h21
        exact B155 σ19 hF H locs ls hP hS (lv_sub hl [] rfl)
      · replace hF := hF.2 h21
        refine lv_aload_n hx hb dX12_fitsPlace_131 rfl (lv_at hl 2 rfl) ?_
        refine lv_iload_n hx hb dX12_fitsPlace_132 rfl (lv_at hl 3 rfl) ?_
        refine lv_iload hx hb dX12_fitsPlace_133 (lv_at hl 1 rfl) ?_
        refine sm_vi (As := [.int p1, .int r6]) (rest := []) hP hK hD hE hS hA ⟨hx, hb, hml, hown, hts⟩ hl.1 (c_X12_push l D H.size t0 σ19 α p1 r6 _ hF) (cwV 2 hts wg_X12_fitsPlace_X12_push_80 rfl rfl rfl (by decide +kernel) ⟨Nat.le_of_ble_eq_true rfl, Nat.le_of_ble_eq_true rfl⟩) (va_recv hK hP (ci := 12) (q0 := 1) rfl (sm_gX12 σ19 α)) rfl rfl (Nat.le_of_ble_eq_true rfl) dX12_fitsPlace_135 ⟨Nat.zero_le _, Nat.zero_le _⟩ (fun r23 σ22 H locs hF hP hS => ?_)
        refine lv_if_eq (tgt := 155) hx hb dX12_fitsPlace_138 (by decide) (fun h24 => ?_) (fun h24 => ?_)
        · replace hF := hF.1 h24
          exact B155 σ22 hF H locs ls hP hS (lv_sub hl [] rfl)
        · replace hF := hF.2 h24
          refine lv_aload_n hx hb dX12_fitsPlace_141 rfl (lv_at hl 2 rfl) ?_
          refine lv_iload_n hx hb dX12_fitsPlace_142 rfl (lv_at hl 3 rfl) ?_
          refine lv_iload hx hb dX12_fitsPlace_143 (lv_at hl 0 rfl) ?_
          refine sm_vi (As := [.int p1, .int r20]) (rest := []) hP hK hD hE hS hA ⟨hx, hb, hml, hown, hts⟩ hl.1 (c_X12_push l D H.size t0 σ22 α p1 r20 _ hF) (cwV 2 hts wg_X12_fitsPlace_X12_push_80 rfl rfl rfl (by decide +kernel) ⟨Nat.le_of_ble_eq_true rfl, Nat.le_of_ble_eq_true rfl⟩) (va_recv hK hP (ci := 12) (q0 := 1) rfl (sm_gX12 σ22 α)) rfl rfl (Nat.le_of_ble_eq_true rfl) dX12_fitsPlace_145 ⟨Nat.zero_le _, Nat.zero_le _⟩ (fun r26 σ25 H locs hF hP hS => ?_)
          refine lv_if_eq (tgt := 155) hx hb dX12_fitsPlace_148 (by decide) (fun h27 => ?_) (fun h27 => ?_)
          · replace hF := hF.1 h27
            exact B155 σ25 hF H locs ls hP hS (lv_sub hl [] rfl)
          · replace hF := hF.2 h27
            refine lv_iconst (v := 1) hx hb dX12_fitsPlace_151 (by decide) ?_
            refine lv_goto (tgt := 156) hx hb dX12_fitsPlace_152 (by decide) ?_
            exact B156 σ25 1 hF H locs ls hP hS (lv_sub hl [] rfl)
    · replace hF := hF.2 h7
      refine lv_iconst (v := 0) hx hb dX12_fitsPlace_49 (by decide) ?_
      exact W.zret (v := 0) hx hb hr sm_z0.1 (fun t ht hW => ⟨⟨0, σ5, rfl, hF, (by unfold sm_B; rw [ht]; exact hP)⟩, hS.F ht⟩) hS.2.2 dX12_fitsPlace_50
  · replace hF := hF.2 h4
    refine lv_aload_n hx hb dX12_fitsPlace_5 rfl (lv_at hl 0 rfl) ?_
    refine va_get (D := D) (ci := 12) (v := .ref (α.1 24)) (C := RX12) (T := TX12) (N := 42) hx hb hts in_X12 hown hK hP 1 (sm_gX12 σ α) rfl 4 (by decide) k_0 (fun _ h9 => h9) rfl dX12_fitsPlace_6 ?_
    refine lv_iload_n hx hb dX12_fitsPlace_9 rfl (lv_at hl 3 rfl) ?_
    obtain ⟨h28, hF⟩ := hF
    refine va_iald (n := (σ.2.2.1 24)) (f := (σ.2.2.2.1 24)) hx hb hK hP 24 22 (sm_aM24 σ α) (sm_yM24 α) h28 dX12_fitsPlace_10 ?_
    refine lv_bipush (v := 99) hx hb dX12_fitsPlace_11 (by decide) ?_
    refine lv_icmp_eq (tgt := 34) hx hb dX12_fitsPlace_13 (by decide) (fun h29 => ?_) (fun h29 => ?_)
    · replace hF := hF.1 h29
      exact B34 σ hF H locs ls hP hS (lv_sub hl [] rfl)
    · replace hF := hF.2 h29
      refine lv_aload_n hx hb dX12_fitsPlace_16 rfl (lv_at hl 0 rfl) ?_
      refine lv_iload_n hx hb dX12_fitsPlace_17 rfl (lv_at hl 1 rfl) ?_
      refine lv_aload_n hx hb dX12_fitsPlace_18 rfl (lv_at hl 0 rfl) ?_
      refine va_get (D := D) (ci := 12) (v := .ref (α.1 24)) (C := RX12) (T := TX12) (N := 42) hx hb hts in_X12 hown hK hP 1 (sm_gX12 σ α) rfl 4 (by decide) k_0 (fun _ h9 => h9) rfl dX12_fitsPlace_19 ?_
      refine lv_iload_n hx hb dX12_fitsPlace_22 rfl (lv_at hl 3 rfl) ?_
      obtain ⟨h30, hF⟩ := hF
      refine va_iald (n := (σ.2.2.1 24)) (f := (σ.2.2.2.1 24)) hx hb hK hP 24 22 (sm_aM24 σ α) (sm_yM24 α) h30 dX12_fitsPlace_23 ?_
      refine sm_vi (As := [.int p1, .int ((σ.2.2.2.1 24) p3.toNatClampNeg)]) (rest := []) hP hK hD hE hS hA ⟨hx, hb, hml, hown, hts⟩ hl.1 (c_X12_push l D H.size t0 σ α p1 ((σ.2.2.2.1 24) p3.toNatClampNeg) _ hF) (cwV 2 hts wg_X12_fitsPlace_X12_push_80 rfl rfl rfl (by decide +kernel) ⟨Nat.le_of_ble_eq_true rfl, Nat.le_of_ble_eq_true rfl⟩) (va_recv hK hP (ci := 12) (q0 := 1) rfl (sm_gX12 σ α)) rfl rfl (Nat.le_of_ble_eq_true rfl) dX12_fitsPlace_24 ⟨Nat.zero_le _, Nat.zero_le _⟩ (fun r32 σ31 H locs hF hP hS => ?_)
      refine lv_if_eq (tgt := 34) hx hb dX12_fitsPlace_27 (by decide) (fun h33 => ?_) (fun h33 => ?_)
      · replace hF := hF.1 h33
        exact B34 σ31 hF H locs ls hP hS (lv_sub hl [] rfl)
      · replace hF := hF.2 h33
        refine lv_iconst (v := 1) hx hb dX12_fitsPlace_30 (by decide) ?_
        refine lv_goto (tgt := 35) hx hb dX12_fitsPlace_31 (by decide) ?_
        exact B35 σ31 1 hF H locs ls hP hS (lv_sub hl [] rfl)
theorem dX12_fits_0 : decode cX12_fits 0 = .ok (.iload_n 2, 1) := by decide +kernel
theorem dX12_fits_1 : decode cX12_fits 1 = .ok (.iconst 2, 1) := by decide +kernel
theorem dX12_fits_2 : decode cX12_fits 2 = .ok (.if_icmp .lt 17, 3) := by decide +kernel
theorem dX12_fits_5 : decode cX12_fits 5 = .ok (.iload_n 2, 1) := by decide +kernel
theorem dX12_fits_6 : decode cX12_fits 6 = .ok (.bipush 6, 2) := by decide +kernel
theorem dX12_fits_8 : decode cX12_fits 8 = .ok (.if_icmp .gt 11, 3) := by decide +kernel
theorem dX12_fits_11 : decode cX12_fits 11 = .ok (.aload_n 0, 1) := by decide +kernel
theorem dX12_fits_12 : decode cX12_fits 12 = .ok (.iload_n 1, 1) := by decide +kernel
theorem dX12_fits_13 : decode cX12_fits 13 = .ok (.iload_n 2, 1) := by decide +kernel
theorem dX12_fits_14 : decode cX12_fits 14 = .ok (.iload_n 3, 1) := by decide +kernel
theorem dX12_fits_15 : decode cX12_fits 15 = .ok (.invokevirtual 89, 3) := by decide +kernel
theorem dX12_fits_18 : decode cX12_fits 18 = .ok (.ireturn, 1) := by decide +kernel
theorem dX12_fits_19 : decode cX12_fits 19 = .ok (.iload_n 2, 1) := by decide +kernel
theorem dX12_fits_20 : decode cX12_fits 20 = .ok (.bipush 31, 2) := by decide +kernel
theorem dX12_fits_22 : decode cX12_fits 22 = .ok (.if_icmp .lt 17, 3) := by decide +kernel
theorem dX12_fits_25 : decode cX12_fits 25 = .ok (.iload_n 2, 1) := by decide +kernel
theorem dX12_fits_26 : decode cX12_fits 26 = .ok (.bipush 34, 2) := by decide +kernel
theorem dX12_fits_28 : decode cX12_fits 28 = .ok (.if_icmp .gt 11, 3) := by decide +kernel
theorem dX12_fits_31 : decode cX12_fits 31 = .ok (.aload_n 0, 1) := by decide +kernel
theorem dX12_fits_32 : decode cX12_fits 32 = .ok (.iload_n 1, 1) := by decide +kernel
theorem dX12_fits_33 : decode cX12_fits 33 = .ok (.iload_n 2, 1) := by decide +kernel
theorem dX12_fits_34 : decode cX12_fits 34 = .ok (.iload_n 3, 1) := by decide +kernel
theorem dX12_fits_35 : decode cX12_fits 35 = .ok (.invokevirtual 93, 3) := by decide +kernel
theorem dX12_fits_38 : decode cX12_fits 38 = .ok (.ireturn, 1) := by decide +kernel
theorem dX12_fits_39 : decode cX12_fits 39 = .ok (.iload_n 2, 1) := by decide +kernel
theorem dX12_fits_40 : decode cX12_fits 40 = .ok (.bipush 7, 2) := by decide +kernel
theorem dX12_fits_42 : decode cX12_fits 42 = .ok (.if_icmp .lt 43, 3) := by decide +kernel
theorem dX12_fits_45 : decode cX12_fits 45 = .ok (.iload_n 2, 1) := by decide +kernel
theorem dX12_fits_46 : decode cX12_fits 46 = .ok (.bipush 18, 2) := by decide +kernel
theorem dX12_fits_48 : decode cX12_fits 48 = .ok (.if_icmp .gt 37, 3) := by decide +kernel
theorem dX12_fits_51 : decode cX12_fits 51 = .ok (.aload_n 0, 1) := by decide +kernel
theorem dX12_fits_52 : decode cX12_fits 52 = .ok (.iload_n 1, 1) := by decide +kernel
theorem dX12_fits_53 : decode cX12_fits 53 = .ok (.iload_n 2, 1) := by decide +kernel
theorem dX12_fits_54 : decode cX12_fits 54 = .ok (.bipush 18, 2) := by decide +kernel
theorem dX12_fits_56 : decode cX12_fits 56 = .ok (.if_icmp .ge 7, 3) := by decide +kernel
theorem dX12_fits_59 : decode cX12_fits 59 = .ok (.iconst 2, 1) := by decide +kernel
theorem dX12_fits_60 : decode cX12_fits 60 = .ok (.goto 4, 3) := by decide +kernel
theorem dX12_fits_63 : decode cX12_fits 63 = .ok (.iconst 1, 1) := by decide +kernel
theorem dX12_fits_64 : decode cX12_fits 64 = .ok (.invokevirtual 83, 3) := by decide +kernel
theorem dX12_fits_67 : decode cX12_fits 67 = .ok (.ifCond .eq 16, 3) := by decide +kernel
theorem dX12_fits_70 : decode cX12_fits 70 = .ok (.aload_n 0, 1) := by decide +kernel
theorem dX12_fits_71 : decode cX12_fits 71 = .ok (.iload_n 1, 1) := by decide +kernel
theorem dX12_fits_72 : decode cX12_fits 72 = .ok (.iconst 0, 1) := by decide +kernel
theorem dX12_fits_73 : decode cX12_fits 73 = .ok (.invokevirtual 80, 3) := by decide +kernel
theorem dX12_fits_76 : decode cX12_fits 76 = .ok (.ifCond .eq 7, 3) := by decide +kernel
theorem dX12_fits_79 : decode cX12_fits 79 = .ok (.iconst 1, 1) := by decide +kernel
theorem dX12_fits_80 : decode cX12_fits 80 = .ok (.goto 4, 3) := by decide +kernel
theorem dX12_fits_83 : decode cX12_fits 83 = .ok (.iconst 0, 1) := by decide +kernel
theorem dX12_fits_84 : decode cX12_fits 84 = .ok (.ireturn, 1) := by decide +kernel
theorem dX12_fits_85 : decode cX12_fits 85 = .ok (.iload_n 2, 1) := by decide +kernel
theorem dX12_fits_86 : decode cX12_fits 86 = .ok (.tableswitch 511 0 41 #[182, 189, 511, 511, 511, 511, 511, 511, 511, 511, 511, 511, 511, 511, 511, 511, 511, 511, 511, 197, 204, 211, 211, 217, 217, 239, 241, 250, 290, 330, 353, 511, 511, 511, 511, 378, 403, 458, 476, 511, 182, 197], 182) := by decide +kernel
theorem dX12_fits_268 : decode cX12_fits 268 = .ok (.aload_n 0, 1) := by decide +kernel
theorem dX12_fits_269 : decode cX12_fits 269 = .ok (.iload_n 1, 1) := by decide +kernel
theorem dX12_fits_270 : decode cX12_fits 270 = .ok (.iconst 0, 1) := by decide +kernel
theorem dX12_fits_271 : decode cX12_fits 271 = .ok (.invokevirtual 80, 3) := by decide +kernel
theorem dX12_fits_274 : decode cX12_fits 274 = .ok (.ireturn, 1) := by decide +kernel
theorem dX12_fits_275 : decode cX12_fits 275 = .ok (.aload_n 0, 1) := by decide +kernel
theorem dX12_fits_276 : decode cX12_fits 276 = .ok (.iload_n 1, 1) := by decide +kernel
theorem dX12_fits_277 : decode cX12_fits 277 = .ok (.bipush 97, 2) := by decide +kernel
theorem dX12_fits_279 : decode cX12_fits 279 = .ok (.invokevirtual 80, 3) := by decide +kernel
theorem dX12_fits_282 : decode cX12_fits 282 = .ok (.ireturn, 1) := by decide +kernel
theorem dX12_fits_283 : decode cX12_fits 283 = .ok (.aload_n 0, 1) := by decide +kernel
theorem dX12_fits_284 : decode cX12_fits 284 = .ok (.iload_n 1, 1) := by decide +kernel
theorem dX12_fits_285 : decode cX12_fits 285 = .ok (.iconst 1, 1) := by decide +kernel
theorem dX12_fits_286 : decode cX12_fits 286 = .ok (.invokevirtual 83, 3) := by decide +kernel
theorem dX12_fits_289 : decode cX12_fits 289 = .ok (.ireturn, 1) := by decide +kernel
theorem dX12_fits_290 : decode cX12_fits 290 = .ok (.aload_n 0, 1) := by decide +kernel
theorem dX12_fits_291 : decode cX12_fits 291 = .ok (.iload_n 1, 1) := by decide +kernel
theorem dX12_fits_292 : decode cX12_fits 292 = .ok (.iconst 2, 1) := by decide +kernel
theorem dX12_fits_293 : decode cX12_fits 293 = .ok (.invokevirtual 83, 3) := by decide +kernel
theorem dX12_fits_296 : decode cX12_fits 296 = .ok (.ireturn, 1) := by decide +kernel
theorem dX12_fits_297 : decode cX12_fits 297 = .ok (.aload_n 0, 1) := by decide +kernel
theorem dX12_fits_298 : decode cX12_fits 298 = .ok (.iload_n 1, 1) := by decide +kernel
theorem dX12_fits_299 : decode cX12_fits 299 = .ok (.invokevirtual 96, 3) := by decide +kernel
theorem dX12_fits_302 : decode cX12_fits 302 = .ok (.ireturn, 1) := by decide +kernel
theorem dX12_fits_303 : decode cX12_fits 303 = .ok (.aload_n 0, 1) := by decide +kernel
theorem dX12_fits_304 : decode cX12_fits 304 = .ok (.iload_n 1, 1) := by decide +kernel
theorem dX12_fits_305 : decode cX12_fits 305 = .ok (.invokevirtual 96, 3) := by decide +kernel
theorem dX12_fits_308 : decode cX12_fits 308 = .ok (.ifCond .eq 15, 3) := by decide +kernel
theorem dX12_fits_311 : decode cX12_fits 311 = .ok (.aload_n 0, 1) := by decide +kernel
theorem dX12_fits_312 : decode cX12_fits 312 = .ok (.iload_n 1, 1) := by decide +kernel
theorem dX12_fits_313 : decode cX12_fits 313 = .ok (.invokevirtual 96, 3) := by decide +kernel
theorem dX12_fits_316 : decode cX12_fits 316 = .ok (.ifCond .eq 7, 3) := by decide +kernel
theorem dX12_fits_319 : decode cX12_fits 319 = .ok (.iconst 1, 1) := by decide +kernel
theorem dX12_fits_320 : decode cX12_fits 320 = .ok (.goto 4, 3) := by decide +kernel
theorem dX12_fits_323 : decode cX12_fits 323 = .ok (.iconst 0, 1) := by decide +kernel
theorem dX12_fits_324 : decode cX12_fits 324 = .ok (.ireturn, 1) := by decide +kernel
theorem dX12_fits_325 : decode cX12_fits 325 = .ok (.iconst 1, 1) := by decide +kernel
theorem dX12_fits_326 : decode cX12_fits 326 = .ok (.ireturn, 1) := by decide +kernel
theorem dX12_fits_327 : decode cX12_fits 327 = .ok (.aload_n 0, 1) := by decide +kernel
theorem dX12_fits_328 : decode cX12_fits 328 = .ok (.iload_n 1, 1) := by decide +kernel
theorem dX12_fits_329 : decode cX12_fits 329 = .ok (.iconst 1, 1) := by decide +kernel
theorem dX12_fits_330 : decode cX12_fits 330 = .ok (.iload_n 3, 1) := by decide +kernel
theorem dX12_fits_331 : decode cX12_fits 331 = .ok (.iadd, 1) := by decide +kernel
theorem dX12_fits_332 : decode cX12_fits 332 = .ok (.invokevirtual 80, 3) := by decide +kernel
theorem dX12_fits_335 : decode cX12_fits 335 = .ok (.ireturn, 1) := by decide +kernel
theorem dX12_fits_336 : decode cX12_fits 336 = .ok (.aload_n 0, 1) := by decide +kernel
theorem dX12_fits_337 : decode cX12_fits 337 = .ok (.iload_n 1, 1) := by decide +kernel
theorem dX12_fits_338 : decode cX12_fits 338 = .ok (.iconst 1, 1) := by decide +kernel
theorem dX12_fits_339 : decode cX12_fits 339 = .ok (.iload_n 3, 1) := by decide +kernel
theorem dX12_fits_340 : decode cX12_fits 340 = .ok (.iadd, 1) := by decide +kernel
theorem dX12_fits_341 : decode cX12_fits 341 = .ok (.invokevirtual 74, 3) := by decide +kernel
theorem dX12_fits_344 : decode cX12_fits 344 = .ok (.ifCond .eq 30, 3) := by decide +kernel
theorem dX12_fits_347 : decode cX12_fits 347 = .ok (.aload_n 0, 1) := by decide +kernel
theorem dX12_fits_348 : decode cX12_fits 348 = .ok (.iload_n 1, 1) := by decide +kernel
theorem dX12_fits_349 : decode cX12_fits 349 = .ok (.aload_n 0, 1) := by decide +kernel
theorem dX12_fits_350 : decode cX12_fits 350 = .ok (.getfield 10, 3) := by decide +kernel
theorem dX12_fits_353 : decode cX12_fits 353 = .ok (.getfield 99, 3) := by decide +kernel
theorem dX12_fits_356 : decode cX12_fits 356 = .ok (.bipush 15, 2) := by decide +kernel
theorem dX12_fits_358 : decode cX12_fits 358 = .ok (.iload_n 3, 1) := by decide +kernel
theorem dX12_fits_359 : decode cX12_fits 359 = .ok (.imul, 1) := by decide +kernel
theorem dX12_fits_360 : decode cX12_fits 360 = .ok (.iload 4, 2) := by decide +kernel
theorem dX12_fits_362 : decode cX12_fits 362 = .ok (.iadd, 1) := by decide +kernel
theorem dX12_fits_363 : decode cX12_fits 363 = .ok (.iaload, 1) := by decide +kernel
theorem dX12_fits_364 : decode cX12_fits 364 = .ok (.invokevirtual 80, 3) := by decide +kernel
theorem dX12_fits_367 : decode cX12_fits 367 = .ok (.ifCond .eq 7, 3) := by decide +kernel
theorem dX12_fits_370 : decode cX12_fits 370 = .ok (.iconst 1, 1) := by decide +kernel
theorem dX12_fits_371 : decode cX12_fits 371 = .ok (.goto 4, 3) := by decide +kernel
theorem dX12_fits_374 : decode cX12_fits 374 = .ok (.iconst 0, 1) := by decide +kernel
theorem dX12_fits_375 : decode cX12_fits 375 = .ok (.ireturn, 1) := by decide +kernel
theorem dX12_fits_376 : decode cX12_fits 376 = .ok (.aload_n 0, 1) := by decide +kernel
theorem dX12_fits_377 : decode cX12_fits 377 = .ok (.iload_n 1, 1) := by decide +kernel
theorem dX12_fits_378 : decode cX12_fits 378 = .ok (.aload_n 0, 1) := by decide +kernel
theorem dX12_fits_379 : decode cX12_fits 379 = .ok (.getfield 10, 3) := by decide +kernel
theorem dX12_fits_382 : decode cX12_fits 382 = .ok (.getfield 99, 3) := by decide +kernel
theorem dX12_fits_385 : decode cX12_fits 385 = .ok (.bipush 15, 2) := by decide +kernel
theorem dX12_fits_387 : decode cX12_fits 387 = .ok (.iload_n 3, 1) := by decide +kernel
theorem dX12_fits_388 : decode cX12_fits 388 = .ok (.imul, 1) := by decide +kernel
theorem dX12_fits_389 : decode cX12_fits 389 = .ok (.iload 4, 2) := by decide +kernel
theorem dX12_fits_391 : decode cX12_fits 391 = .ok (.iadd, 1) := by decide +kernel
theorem dX12_fits_392 : decode cX12_fits 392 = .ok (.iaload, 1) := by decide +kernel
theorem dX12_fits_393 : decode cX12_fits 393 = .ok (.invokevirtual 74, 3) := by decide +kernel
theorem dX12_fits_396 : decode cX12_fits 396 = .ok (.ifCond .eq 18, 3) := by decide +kernel
theorem dX12_fits_399 : decode cX12_fits 399 = .ok (.aload_n 0, 1) := by decide +kernel
theorem dX12_fits_400 : decode cX12_fits 400 = .ok (.iload_n 1, 1) := by decide +kernel
theorem dX12_fits_401 : decode cX12_fits 401 = .ok (.iconst 1, 1) := by decide +kernel
theorem dX12_fits_402 : decode cX12_fits 402 = .ok (.iload_n 3, 1) := by decide +kernel
theorem dX12_fits_403 : decode cX12_fits 403 = .ok (.iadd, 1) := by decide +kernel
theorem dX12_fits_404 : decode cX12_fits 404 = .ok (.invokevirtual 74, 3) := by decide +kernel
theorem dX12_fits_407 : decode cX12_fits 407 = .ok (.ifCond .eq 7, 3) := by decide +kernel
theorem dX12_fits_410 : decode cX12_fits 410 = .ok (.iconst 1, 1) := by decide +kernel
theorem dX12_fits_411 : decode cX12_fits 411 = .ok (.goto 4, 3) := by decide +kernel
theorem dX12_fits_414 : decode cX12_fits 414 = .ok (.iconst 0, 1) := by decide +kernel
theorem dX12_fits_415 : decode cX12_fits 415 = .ok (.ireturn, 1) := by decide +kernel
theorem dX12_fits_416 : decode cX12_fits 416 = .ok (.aload_n 0, 1) := by decide +kernel
theorem dX12_fits_417 : decode cX12_fits 417 = .ok (.iload_n 1, 1) := by decide +kernel
theorem dX12_fits_418 : decode cX12_fits 418 = .ok (.invokevirtual 96, 3) := by decide +kernel
theorem dX12_fits_421 : decode cX12_fits 421 = .ok (.ifCond .eq 16, 3) := by decide +kernel
theorem dX12_fits_424 : decode cX12_fits 424 = .ok (.aload_n 0, 1) := by decide +kernel
theorem dX12_fits_425 : decode cX12_fits 425 = .ok (.iload_n 1, 1) := by decide +kernel
theorem dX12_fits_426 : decode cX12_fits 426 = .ok (.iconst 0, 1) := by decide +kernel
theorem dX12_fits_427 : decode cX12_fits 427 = .ok (.invokevirtual 80, 3) := by decide +kernel
theorem dX12_fits_430 : decode cX12_fits 430 = .ok (.ifCond .eq 7, 3) := by decide +kernel
theorem dX12_fits_433 : decode cX12_fits 433 = .ok (.iconst 1, 1) := by decide +kernel
theorem dX12_fits_434 : decode cX12_fits 434 = .ok (.goto 4, 3) := by decide +kernel
theorem dX12_fits_437 : decode cX12_fits 437 = .ok (.iconst 0, 1) := by decide +kernel
theorem dX12_fits_438 : decode cX12_fits 438 = .ok (.ireturn, 1) := by decide +kernel
theorem dX12_fits_439 : decode cX12_fits 439 = .ok (.aload_n 0, 1) := by decide +kernel
theorem dX12_fits_440 : decode cX12_fits 440 = .ok (.iload_n 1, 1) := by decide +kernel
theorem dX12_fits_441 : decode cX12_fits 441 = .ok (.invokevirtual 96, 3) := by decide +kernel
theorem dX12_fits_444 : decode cX12_fits 444 = .ok (.ifCond .eq 18, 3) := by decide +kernel
theorem dX12_fits_447 : decode cX12_fits 447 = .ok (.aload_n 0, 1) := by decide +kernel
theorem dX12_fits_448 : decode cX12_fits 448 = .ok (.iload_n 1, 1) := by decide +kernel
theorem dX12_fits_449 : decode cX12_fits 449 = .ok (.iconst 1, 1) := by decide +kernel
theorem dX12_fits_450 : decode cX12_fits 450 = .ok (.iload_n 3, 1) := by decide +kernel
theorem dX12_fits_451 : decode cX12_fits 451 = .ok (.iadd, 1) := by decide +kernel
theorem dX12_fits_452 : decode cX12_fits 452 = .ok (.invokevirtual 80, 3) := by decide +kernel
theorem dX12_fits_455 : decode cX12_fits 455 = .ok (.ifCond .eq 7, 3) := by decide +kernel
theorem dX12_fits_458 : decode cX12_fits 458 = .ok (.iconst 1, 1) := by decide +kernel
theorem dX12_fits_459 : decode cX12_fits 459 = .ok (.goto 4, 3) := by decide +kernel
theorem dX12_fits_462 : decode cX12_fits 462 = .ok (.iconst 0, 1) := by decide +kernel
theorem dX12_fits_463 : decode cX12_fits 463 = .ok (.ireturn, 1) := by decide +kernel
theorem dX12_fits_464 : decode cX12_fits 464 = .ok (.aload_n 0, 1) := by decide +kernel
theorem dX12_fits_465 : decode cX12_fits 465 = .ok (.iload_n 1, 1) := by decide +kernel
theorem dX12_fits_466 : decode cX12_fits 466 = .ok (.iload_n 3, 1) := by decide +kernel
theorem dX12_fits_467 : decode cX12_fits 467 = .ok (.iconst 0, 1) := by decide +kernel
theorem dX12_fits_468 : decode cX12_fits 468 = .ok (.invokevirtual 102, 3) := by decide +kernel
theorem dX12_fits_471 : decode cX12_fits 471 = .ok (.ifCond .eq 16, 3) := by decide +kernel
theorem dX12_fits_474 : decode cX12_fits 474 = .ok (.aload_n 0, 1) := by decide +kernel
theorem dX12_fits_475 : decode cX12_fits 475 = .ok (.iload_n 1, 1) := by decide +kernel
theorem dX12_fits_476 : decode cX12_fits 476 = .ok (.iload_n 3, 1) := by decide +kernel
theorem dX12_fits_477 : decode cX12_fits 477 = .ok (.invokevirtual 105, 3) := by decide +kernel
theorem dX12_fits_480 : decode cX12_fits 480 = .ok (.ifCond .eq 7, 3) := by decide +kernel
theorem dX12_fits_483 : decode cX12_fits 483 = .ok (.iconst 1, 1) := by decide +kernel
theorem dX12_fits_484 : decode cX12_fits 484 = .ok (.goto 4, 3) := by decide +kernel
theorem dX12_fits_487 : decode cX12_fits 487 = .ok (.iconst 0, 1) := by decide +kernel
theorem dX12_fits_488 : decode cX12_fits 488 = .ok (.ireturn, 1) := by decide +kernel
theorem dX12_fits_489 : decode cX12_fits 489 = .ok (.aload_n 0, 1) := by decide +kernel
theorem dX12_fits_490 : decode cX12_fits 490 = .ok (.getfield 10, 3) := by decide +kernel
theorem dX12_fits_493 : decode cX12_fits 493 = .ok (.getfield 108, 3) := by decide +kernel
theorem dX12_fits_496 : decode cX12_fits 496 = .ok (.bipush 16, 2) := by decide +kernel
theorem dX12_fits_498 : decode cX12_fits 498 = .ok (.iload_n 3, 1) := by decide +kernel
theorem dX12_fits_499 : decode cX12_fits 499 = .ok (.imul, 1) := by decide +kernel
theorem dX12_fits_500 : decode cX12_fits 500 = .ok (.iload 4, 2) := by decide +kernel
theorem dX12_fits_502 : decode cX12_fits 502 = .ok (.iadd, 1) := by decide +kernel
theorem dX12_fits_503 : decode cX12_fits 503 = .ok (.iaload, 1) := by decide +kernel
theorem dX12_fits_504 : decode cX12_fits 504 = .ok (.istore 5, 2) := by decide +kernel
theorem dX12_fits_506 : decode cX12_fits 506 = .ok (.aload_n 0, 1) := by decide +kernel
theorem dX12_fits_507 : decode cX12_fits 507 = .ok (.iload_n 1, 1) := by decide +kernel
theorem dX12_fits_508 : decode cX12_fits 508 = .ok (.iload 5, 2) := by decide +kernel
theorem dX12_fits_510 : decode cX12_fits 510 = .ok (.iconst 1, 1) := by decide +kernel
theorem dX12_fits_511 : decode cX12_fits 511 = .ok (.invokevirtual 102, 3) := by decide +kernel
theorem dX12_fits_514 : decode cX12_fits 514 = .ok (.ifCond .eq 28, 3) := by decide +kernel
theorem dX12_fits_517 : decode cX12_fits 517 = .ok (.aload_n 0, 1) := by decide +kernel
theorem dX12_fits_518 : decode cX12_fits 518 = .ok (.iload_n 1, 1) := by decide +kernel
theorem dX12_fits_519 : decode cX12_fits 519 = .ok (.iconst 1, 1) := by decide +kernel
theorem dX12_fits_520 : decode cX12_fits 520 = .ok (.iload_n 3, 1) := by decide +kernel
theorem dX12_fits_521 : decode cX12_fits 521 = .ok (.iadd, 1) := by decide +kernel
theorem dX12_fits_522 : decode cX12_fits 522 = .ok (.invokevirtual 74, 3) := by decide +kernel
theorem dX12_fits_525 : decode cX12_fits 525 = .ok (.ifCond .eq 17, 3) := by decide +kernel
theorem dX12_fits_528 : decode cX12_fits 528 = .ok (.aload_n 0, 1) := by decide +kernel
theorem dX12_fits_529 : decode cX12_fits 529 = .ok (.iload_n 1, 1) := by decide +kernel
theorem dX12_fits_530 : decode cX12_fits 530 = .ok (.iload 5, 2) := by decide +kernel
theorem dX12_fits_532 : decode cX12_fits 532 = .ok (.invokevirtual 105, 3) := by decide +kernel
theorem dX12_fits_535 : decode cX12_fits 535 = .ok (.ifCond .eq 7, 3) := by decide +kernel
theorem dX12_fits_538 : decode cX12_fits 538 = .ok (.iconst 1, 1) := by decide +kernel
theorem dX12_fits_539 : decode cX12_fits 539 = .ok (.goto 4, 3) := by decide +kernel
theorem dX12_fits_542 : decode cX12_fits 542 = .ok (.iconst 0, 1) := by decide +kernel
theorem dX12_fits_543 : decode cX12_fits 543 = .ok (.ireturn, 1) := by decide +kernel
theorem dX12_fits_544 : decode cX12_fits 544 = .ok (.aload_n 0, 1) := by decide +kernel
theorem dX12_fits_545 : decode cX12_fits 545 = .ok (.getfield 10, 3) := by decide +kernel
theorem dX12_fits_548 : decode cX12_fits 548 = .ok (.getfield 77, 3) := by decide +kernel
theorem dX12_fits_551 : decode cX12_fits 551 = .ok (.iload_n 1, 1) := by decide +kernel
theorem dX12_fits_552 : decode cX12_fits 552 = .ok (.iaload, 1) := by decide +kernel
theorem dX12_fits_553 : decode cX12_fits 553 = .ok (.ifCond .ge 7, 3) := by decide +kernel
theorem dX12_fits_556 : decode cX12_fits 556 = .ok (.iconst 1, 1) := by decide +kernel
theorem dX12_fits_557 : decode cX12_fits 557 = .ok (.goto 4, 3) := by decide +kernel
theorem dX12_fits_560 : decode cX12_fits 560 = .ok (.iconst 0, 1) := by decide +kernel
theorem dX12_fits_561 : decode cX12_fits 561 = .ok (.ireturn, 1) := by decide +kernel
theorem dX12_fits_562 : decode cX12_fits 562 = .ok (.aload_n 0, 1) := by decide +kernel
theorem dX12_fits_563 : decode cX12_fits 563 = .ok (.getfield 10, 3) := by decide +kernel
theorem dX12_fits_566 : decode cX12_fits 566 = .ok (.getfield 77, 3) := by decide +kernel
theorem dX12_fits_569 : decode cX12_fits 569 = .ok (.iload_n 1, 1) := by decide +kernel
theorem dX12_fits_570 : decode cX12_fits 570 = .ok (.iaload, 1) := by decide +kernel
theorem dX12_fits_571 : decode cX12_fits 571 = .ok (.ifCond .lt 24, 3) := by decide +kernel
theorem dX12_fits_574 : decode cX12_fits 574 = .ok (.aload_n 0, 1) := by decide +kernel
theorem dX12_fits_575 : decode cX12_fits 575 = .ok (.iload_n 1, 1) := by decide +kernel
theorem dX12_fits_576 : decode cX12_fits 576 = .ok (.aload_n 0, 1) := by decide +kernel
theorem dX12_fits_577 : decode cX12_fits 577 = .ok (.getfield 10, 3) := by decide +kernel
theorem dX12_fits_580 : decode cX12_fits 580 = .ok (.getfield 77, 3) := by decide +kernel
theorem dX12_fits_583 : decode cX12_fits 583 = .ok (.iload_n 1, 1) := by decide +kernel
theorem dX12_fits_584 : decode cX12_fits 584 = .ok (.iaload, 1) := by decide +kernel
theorem dX12_fits_585 : decode cX12_fits 585 = .ok (.invokevirtual 74, 3) := by decide +kernel
theorem dX12_fits_588 : decode cX12_fits 588 = .ok (.ifCond .eq 7, 3) := by decide +kernel
theorem dX12_fits_591 : decode cX12_fits 591 = .ok (.iconst 1, 1) := by decide +kernel
theorem dX12_fits_592 : decode cX12_fits 592 = .ok (.goto 4, 3) := by decide +kernel
theorem dX12_fits_595 : decode cX12_fits 595 = .ok (.iconst 0, 1) := by decide +kernel
theorem dX12_fits_596 : decode cX12_fits 596 = .ok (.ireturn, 1) := by decide +kernel
theorem dX12_fits_597 : decode cX12_fits 597 = .ok (.aload_n 0, 1) := by decide +kernel
theorem dX12_fits_598 : decode cX12_fits 598 = .ok (.iload_n 1, 1) := by decide +kernel
theorem dX12_fits_599 : decode cX12_fits 599 = .ok (.invokevirtual 61, 3) := by decide +kernel
theorem dX12_fits_602 : decode cX12_fits 602 = .ok (.istore 6, 2) := by decide +kernel
theorem dX12_fits_604 : decode cX12_fits 604 = .ok (.iload 6, 2) := by decide +kernel
theorem dX12_fits_606 : decode cX12_fits 606 = .ok (.bipush 97, 2) := by decide +kernel
theorem dX12_fits_608 : decode cX12_fits 608 = .ok (.if_icmp .eq 11, 3) := by decide +kernel
theorem dX12_fits_611 : decode cX12_fits 611 = .ok (.iload 6, 2) := by decide +kernel
theorem dX12_fits_613 : decode cX12_fits 613 = .ok (.invokestatic 7, 3) := by decide +kernel
theorem dX12_fits_616 : decode cX12_fits 616 = .ok (.ifCond .eq 7, 3) := by decide +kernel
theorem dX12_fits_619 : decode cX12_fits 619 = .ok (.iconst 1, 1) := by decide +kernel
theorem dX12_fits_620 : decode cX12_fits 620 = .ok (.goto 4, 3) := by decide +kernel
theorem dX12_fits_623 : decode cX12_fits 623 = .ok (.iconst 0, 1) := by decide +kernel
theorem dX12_fits_624 : decode cX12_fits 624 = .ok (.ireturn, 1) := by decide +kernel
def wp_X12_fits : List Cond := .code yX12_fits cX12_fits 7 (some .boolean) :: (((((((((((([.fieldLink RX12 10 "SteadyMachineModel" "image" "LSteadyMachineModel$Image;"] ++ (wsV RX12 80 RX12 yX12_push wp_X12_push)) ++ (wsV RX12 61 RX12 yX12_pop wp_X12_pop)) ++ (va_wsS RX12 7 yX12_isSome wp_X12_isSome)) ++ (wsV RX12 83 RX12 yX12_popInts wp_X12_popInts)) ++ (wsV RX12 96 RX12 yX12_popReference wp_X12_popReference)) ++ (wsV RX12 74 RX12 yX12_popInto wp_X12_popInto)) ++ (wsV RX12 102 RX12 yX12_popParameters wp_X12_popParameters)) ++ (wsV RX12 105 RX12 yX12_pushGiven wp_X12_pushGiven)) ++ (wsV RX12 93 RX12 yX12_fitsRow wp_X12_fitsRow)) ++ (wsV RX12 89 RX12 yX12_fitsPlace wp_X12_fitsPlace)) ++ wsX110) ++ wsX120)
theorem wq_X12_fits : wp_X12_fits.all goodWord = true := wa_c rfl (wa_a (wa_a (wa_a (wa_a (wa_a (wa_a (wa_a (wa_a (wa_a (wa_a (wa_a (wa_a (by decide +kernel) (wa_V wq_X12_push)) (wa_V wq_X12_pop)) (wa_S wq_X12_isSome)) (wa_V wq_X12_popInts)) (wa_V wq_X12_popReference)) (wa_V wq_X12_popInto)) (wa_V wq_X12_popParameters)) (wa_V wq_X12_pushGiven)) (wa_V wq_X12_fitsRow)) (wa_V wq_X12_fitsPlace)) uq_X11) uq_X12)
set_option maxRecDepth 200000 in
theorem wt_X12_fits : GoodIn lw_tbl wp_X12_fits := wm_c (List.mem_of_getElem? (i := 1318) rfl) rfl (wm_a (wm_a (wm_a (wm_a (wm_a (wm_a (wm_a (wm_a (wm_a (wm_a (wm_a (wm_a (goodIn_r _ [1490] (by decide +kernel) (by decide +kernel)) (wm_a (goodIn_r _ [1311, 1313, 90, 147] (by decide +kernel) (by decide +kernel)) wt_X12_push)) (wm_a (goodIn_r _ [1323, 1325, 93, 147] (by decide +kernel) (by decide +kernel)) wt_X12_pop)) (wm_a (goodIn_r _ [1291, 1292, 147] (by decide +kernel) (by decide +kernel)) wt_X12_isSome)) (wm_a (goodIn_r _ [1331, 1333, 95, 147] (by decide +kernel) (by decide +kernel)) wt_X12_popInts)) (wm_a (goodIn_r _ [1342, 1344, 97, 147] (by decide +kernel) (by decide +kernel)) wt_X12_popReference)) (wm_a (goodIn_r _ [1346, 1348, 98, 147] (by decide +kernel) (by decide +kernel)) wt_X12_popInto)) (wm_a (goodIn_r _ [1350, 1352, 99, 147] (by decide +kernel) (by decide +kernel)) wt_X12_popParameters)) (wm_a (goodIn_r _ [1354, 1356, 100, 147] (by decide +kernel) (by decide +kernel)) wt_X12_pushGiven)) (wm_a (goodIn_r _ [1327, 1329, 94, 147] (by decide +kernel) (by decide +kernel)) wt_X12_fitsRow)) (wm_a (goodIn_r _ [1319, 1321, 92, 147] (by decide +kernel) (by decide +kernel)) wt_X12_fitsPlace)) ut_X11) ut_X12)
theorem wg_X12_fits_X12_push_80 : GoodIn wp_X12_fits (wsV RX12 80 RX12 yX12_push wp_X12_push) := goodIn_sub (fun w h => List.mem_cons_of_mem _ (List.mem_append_left _ (List.mem_append_left _ (List.mem_append_left _ (List.mem_append_left _ (List.mem_append_left _ (List.mem_append_left _ (List.mem_append_left _ (List.mem_append_left _ (List.mem_append_left _ (List.mem_append_left _ (List.mem_append_left _ (List.mem_append_right _ h))))))))))))) (wa_V wq_X12_push)
theorem wg_X12_fits_X12_pop_61 : GoodIn wp_X12_fits (wsV RX12 61 RX12 yX12_pop wp_X12_pop) := goodIn_sub (fun w h => List.mem_cons_of_mem _ (List.mem_append_left _ (List.mem_append_left _ (List.mem_append_left _ (List.mem_append_left _ (List.mem_append_left _ (List.mem_append_left _ (List.mem_append_left _ (List.mem_append_left _ (List.mem_append_left _ (List.mem_append_left _ (List.mem_append_right _ h)))))))))))) (wa_V wq_X12_pop)
theorem wg_X12_fits_X12_isSome_7 : GoodIn wp_X12_fits (va_wsS RX12 7 yX12_isSome wp_X12_isSome) := goodIn_sub (fun w h => List.mem_cons_of_mem _ (List.mem_append_left _ (List.mem_append_left _ (List.mem_append_left _ (List.mem_append_left _ (List.mem_append_left _ (List.mem_append_left _ (List.mem_append_left _ (List.mem_append_left _ (List.mem_append_left _ (List.mem_append_right _ h))))))))))) (wa_S wq_X12_isSome)
theorem wg_X12_fits_X12_popInts_83 : GoodIn wp_X12_fits (wsV RX12 83 RX12 yX12_popInts wp_X12_popInts) := goodIn_sub (fun w h => List.mem_cons_of_mem _ (List.mem_append_left _ (List.mem_append_left _ (List.mem_append_left _ (List.mem_append_left _ (List.mem_append_left _ (List.mem_append_left _ (List.mem_append_left _ (List.mem_append_left _ (List.mem_append_right _ h)))))))))) (wa_V wq_X12_popInts)
theorem wg_X12_fits_X12_popReference_96 : GoodIn wp_X12_fits (wsV RX12 96 RX12 yX12_popReference wp_X12_popReference) := goodIn_sub (fun w h => List.mem_cons_of_mem _ (List.mem_append_left _ (List.mem_append_left _ (List.mem_append_left _ (List.mem_append_left _ (List.mem_append_left _ (List.mem_append_left _ (List.mem_append_left _ (List.mem_append_right _ h))))))))) (wa_V wq_X12_popReference)
theorem wg_X12_fits_X12_popInto_74 : GoodIn wp_X12_fits (wsV RX12 74 RX12 yX12_popInto wp_X12_popInto) := goodIn_sub (fun w h => List.mem_cons_of_mem _ (List.mem_append_left _ (List.mem_append_left _ (List.mem_append_left _ (List.mem_append_left _ (List.mem_append_left _ (List.mem_append_left _ (List.mem_append_right _ h)))))))) (wa_V wq_X12_popInto)
theorem wg_X12_fits_X12_popParameters_102 : GoodIn wp_X12_fits (wsV RX12 102 RX12 yX12_popParameters wp_X12_popParameters) := goodIn_sub (fun w h => List.mem_cons_of_mem _ (List.mem_append_left _ (List.mem_append_left _ (List.mem_append_left _ (List.mem_append_left _ (List.mem_append_left _ (List.mem_append_right _ h))))))) (wa_V wq_X12_popParameters)
theorem wg_X12_fits_X12_pushGiven_105 : GoodIn wp_X12_fits (wsV RX12 105 RX12 yX12_pushGiven wp_X12_pushGiven) := goodIn_sub (fun w h => List.mem_cons_of_mem _ (List.mem_append_left _ (List.mem_append_left _ (List.mem_append_left _ (List.mem_append_left _ (List.mem_append_right _ h)))))) (wa_V wq_X12_pushGiven)
theorem wg_X12_fits_X12_fitsRow_93 : GoodIn wp_X12_fits (wsV RX12 93 RX12 yX12_fitsRow wp_X12_fitsRow) := goodIn_sub (fun w h => List.mem_cons_of_mem _ (List.mem_append_left _ (List.mem_append_left _ (List.mem_append_left _ (List.mem_append_right _ h))))) (wa_V wq_X12_fitsRow)
theorem wg_X12_fits_X12_fitsPlace_89 : GoodIn wp_X12_fits (wsV RX12 89 RX12 yX12_fitsPlace wp_X12_fitsPlace) := goodIn_sub (fun w h => List.mem_cons_of_mem _ (List.mem_append_left _ (List.mem_append_left _ (List.mem_append_right _ h)))) (wa_V wq_X12_fitsPlace)
theorem wi_X12_fits_X11 : ∀ w ∈ wsX110, w ∈ wp_X12_fits := fun w h => List.mem_cons_of_mem _ (List.mem_append_left _ (List.mem_append_right _ h))
theorem wi_X12_fits_X12 : ∀ w ∈ wsX120, w ∈ wp_X12_fits := fun w h => List.mem_cons_of_mem _ (List.mem_append_right _ h)
set_option maxHeartbeats 4000000 in
set_option maxRecDepth 100000 in
theorem c_X12_fits (l : Launch) (D : va_G) (sz t0 : Nat) (σ : sm_S) (α : sm_A) (p1 : Int32) (p2 : Int32) (p3 : Int32) (p4 : Int32) (K : Int32 → sm_S → Prop) (hF : mp_X12_fits σ p1 p2 p3 p4 K) : Met l yX12_fits wp_X12_fits { frames := 5, cells := 0, slots := 0, locals := 113 } (sm_P sm_wM sm_tM 40 D sz t0 σ α [.ref (α.1 1), .int p1, .int p2, .int p3, .int p4]) (va_Qi K (sm_B sm_wM D α) (sm_a α 40 sz)) 0 0 (sm_a α 40 sz) := by
  refine Met.ofW (cc := cX12_fits) (maxL := 7) (ret := (some .boolean)) (by decide) rfl ?_
  intro p e s m args below meth c s₁ B hml hv
  obtain ⟨rfl, hsz, hP, hK, hD0, hE⟩ := hv
  have hx := B.exec
  have hb := B.bytes
  have hr := B.returns
  have hts := atoms_spec (ws := wp_X12_fits) B.pre
  have hown : s.vm.findClass RX12 = some m.cls := findClass_of_methodNamed B.named
  have hlocks := B.notSynchronized
  subst hsz
  have hD : sm_D (sm_a α 40 s.heap.size) α 40 := hD0.own
  have hA : ∀ q : Nat, s.heap.size ≤ q → sm_a α 40 s.heap.size q := fun q h => Or.inr h
  generalize hAe : sm_a α 40 s.heap.size = A at hD hA hE ⊢
  have hS : va_S A s.heap s.heap [] := va_S.rf
  have in_X11 : ∀ w ∈ wsX110, w ∈ wp_X12_fits := wi_X12_fits_X11
  have in_X12 : ∀ w ∈ wsX120, w ∈ wp_X12_fits := wi_X12_fits_X12
  have k_0 := hts (.fieldLink RX12 10 "SteadyMachineModel" "image" "LSteadyMachineModel$Image;") (by decide +kernel)
  have hl := lv_entry ([.ref (α.1 1), .int p1, .int p2, .int p3, .int p4]) (n := 7) (Nat.le_of_ble_eq_true rfl)
  rw [lg_entry_eq]
  generalize (lg_sl ([.ref (α.1 1), .int p1, .int p2, .int p3, .int p4]) ++ List.replicate (7 - (lg_sl ([.ref (α.1 1), .int p1, .int p2, .int p3, .int p4])).length) Slot.unset).toArray = ls at hl ⊢
  have hl : lv_has ls 7 [(0, .ref (α.1 1)), (1, .int p1), (2, .int p2), (3, .int p3), (4, .int p4)] := hl
  have B624 : ∀ (σ : sm_S) (y0 : Int32), mp_X12_fits_624 K σ y0 → sm_J p l e (headSpec wp_X12_fits { frames := 5, cells := 0, slots := 0, locals := 113 }).room s m ([.ref (α.1 1), .int p1, .int p2, .int p3, .int p4] : List Value).toArray below meth c (MQ below (va_Qi K (sm_B sm_wM D α) A) ([.ref (α.1 1), .int p1, .int p2, .int p3, .int p4] : List Value).toArray s 0 0 A) D A 7 (sm_wM σ α) 624 [] [.int y0] := by
    intro σ y0 hF H locs ls hP hS hl
    unfold mp_X12_fits_624 at hF
    obtain ⟨h1, hF⟩ := hF
    exact W.zret (v := y0) hx hb hr h1.1 (fun t ht hW => ⟨⟨y0, σ, rfl, hF, (by unfold sm_B; rw [ht]; exact hP)⟩, hS.F ht⟩) hS.2.2 dX12_fits_624
  have B619 : ∀ (σ : sm_S), mp_X12_fits_619 K σ → sm_J p l e (headSpec wp_X12_fits { frames := 5, cells := 0, slots := 0, locals := 113 }).room s m ([.ref (α.1 1), .int p1, .int p2, .int p3, .int p4] : List Value).toArray below meth c (MQ below (va_Qi K (sm_B sm_wM D α) A) ([.ref (α.1 1), .int p1, .int p2, .int p3, .int p4] : List Value).toArray s 0 0 A) D A 7 (sm_wM σ α) 619 [] [] := by
    intro σ hF H locs ls hP hS hl
    unfold mp_X12_fits_619 at hF
    refine lv_iconst (v := 1) hx hb dX12_fits_619 (by decide) ?_
    refine lv_goto (tgt := 624) hx hb dX12_fits_620 (by decide) ?_
    exact B624 σ 1 hF H locs ls hP hS (lv_sub hl [] rfl)
  have B596 : ∀ (σ : sm_S) (y0 : Int32), mp_X12_fits_596 K σ y0 → sm_J p l e (headSpec wp_X12_fits { frames := 5, cells := 0, slots := 0, locals := 113 }).room s m ([.ref (α.1 1), .int p1, .int p2, .int p3, .int p4] : List Value).toArray below meth c (MQ below (va_Qi K (sm_B sm_wM D α) A) ([.ref (α.1 1), .int p1, .int p2, .int p3, .int p4] : List Value).toArray s 0 0 A) D A 7 (sm_wM σ α) 596 [] [.int y0] := by
    intro σ y0 hF H locs ls hP hS hl
    unfold mp_X12_fits_596 at hF
    obtain ⟨h2, hF⟩ := hF
    exact W.zret (v := y0) hx hb hr h2.1 (fun t ht hW => ⟨⟨y0, σ, rfl, hF, (by unfold sm_B; rw [ht]; exact hP)⟩, hS.F ht⟩) hS.2.2 dX12_fits_596
  have B595 : ∀ (σ : sm_S), mp_X12_fits_595 K σ → sm_J p l e (headSpec wp_X12_fits { frames := 5, cells := 0, slots := 0, locals := 113 }).room s m ([.ref (α.1 1), .int p1, .int p2, .int p3, .int p4] : List Value).toArray below meth c (MQ below (va_Qi K (sm_B sm_wM D α) A) ([.ref (α.1 1), .int p1, .int p2, .int p3, .int p4] : List Value).toArray s 0 0 A) D A 7 (sm_wM σ α) 595 [] [] := by
    intro σ hF H locs ls hP hS hl
    unfold mp_X12_fits_595 at hF
    refine lv_iconst (v := 0) hx hb dX12_fits_595 (by decide) ?_
    exact B596 σ 0 hF H locs ls hP hS (lv_sub hl [] rfl)
  have B561 : ∀ (σ : sm_S) (y0 : Int32), mp_X12_fits_561 K σ y0 → sm_J p l e (headSpec wp_X12_fits { frames := 5, cells := 0, slots := 0, locals := 113 }).room s m ([.ref (α.1 1), .int p1, .int p2, .int p3, .int p4] : List Value).toArray below meth c (MQ below (va_Qi K (sm_B sm_wM D α) A) ([.ref (α.1 1), .int p1, .int p2, .int p3, .int p4] : List Value).toArray s 0 0 A) D A 7 (sm_wM σ α) 561 [] [.int y0] := by
    intro σ y0 hF H locs ls hP hS hl
    unfold mp_X12_fits_561 at hF
    obtain ⟨h3, hF⟩ := hF
    exact W.zret (v := y0) hx hb hr h3.1 (fun t ht hW => ⟨⟨y0, σ, rfl, hF, (by unfold sm_B; rw [ht]; exact hP)⟩, hS.F ht⟩) hS.2.2 dX12_fits_561
  have B543 : ∀ (σ : sm_S) (y0 : Int32), mp_X12_fits_543 K σ y0 → sm_J p l e (headSpec wp_X12_fits { frames := 5, cells := 0, slots := 0, locals := 113 }).room s m ([.ref (α.1 1), .int p1, .int p2, .int p3, .int p4] : List Value).toArray below meth c (MQ below (va_Qi K (sm_B sm_wM D α) A) ([.ref (α.1 1), .int p1, .int p2, .int p3, .int p4] : List Value).toArray s 0 0 A) D A 7 (sm_wM σ α) 543 [] [.int y0] := by
    intro σ y0 hF H locs ls hP hS hl
    unfold mp_X12_fits_543 at hF
    obtain ⟨h4, hF⟩ := hF
    exact W.zret (v := y0) hx hb hr h4.1 (fun t ht hW => ⟨⟨y0, σ, rfl, hF, (by unfold sm_B; rw [ht]; exact hP)⟩, hS.F ht⟩) hS.2.2 dX12_fits_543
  have B542 : ∀ (σ : sm_S), mp_X12_fits_542 K σ → sm_J p l e (headSpec wp_X12_fits { frames := 5, cells := 0, slots := 0, locals := 113 }).room s m ([.ref (α.1 1), .int p1, .int p2, .int p3, .int p4] : List Value).toArray below meth c (MQ below (va_Qi K (sm_B sm_wM D α) A) ([.ref (α.1 1), .int p1, .int p2, .int p3, .int p4] : List Value).toArray s 0 0 A) D A 7 (sm_wM σ α) 542 [] [] := by
    intro σ hF H locs ls hP hS hl
    unfold mp_X12_fits_542 at hF
    refine lv_iconst (v := 0) hx hb dX12_fits_542 (by decide) ?_
    exact B543 σ 0 hF H locs ls hP hS (lv_sub hl [] rfl)
  have B488 : ∀ (σ : sm_S) (y0 : Int32), mp_X12_fits_488 K σ y0 → sm_J p l e (headSpec wp_X12_fits { frames := 5, cells := 0, slots := 0, locals := 113 }).room s m ([.ref (α.1 1), .int p1, .int p2, .int p3, .int p4] : List Value).toArray below meth c (MQ below (va_Qi K (sm_B sm_wM D α) A) ([.ref (α.1 1), .int p1, .int p2, .int p3, .int p4] : List Value).toArray s 0 0 A) D A 7 (sm_wM σ α) 488 [] [.int y0] := by
    intro σ y0 hF H locs ls hP hS hl
    unfold mp_X12_fits_488 at hF
    obtain ⟨h5, hF⟩ := hF
    exact W.zret (v := y0) hx hb hr h5.1 (fun t ht hW => ⟨⟨y0, σ, rfl, hF, (by unfold sm_B; rw [ht]; exact hP)⟩, hS.F ht⟩) hS.2.2 dX12_fits_488
  have B487 : ∀ (σ : sm_S), mp_X12_fits_487 K σ → sm_J p l e (headSpec wp_X12_fits { frames := 5, cells := 0, slots := 0, locals := 113 }).room s m ([.ref (α.1 1), .int p1, .int p2, .int p3, .int p4] : List Value).toArray below meth c (MQ below (va_Qi K (sm_B sm_wM D α) A) ([.ref (α.1 1), .int p1, .int p2, .int p3, .int p4] : List Value).toArray s 0 0 A) D A 7 (sm_wM σ α) 487 [] [] := by
    intro σ hF H locs ls hP hS hl
    unfold mp_X12_fits_487 at hF
    refine lv_iconst (v := 0) hx hb dX12_fits_487 (by decide) ?_
    exact B488 σ 0 hF H locs ls hP hS (lv_sub hl [] rfl)
  have B463 : ∀ (σ : sm_S) (y0 : Int32), mp_X12_fits_463 K σ y0 → sm_J p l e (headSpec wp_X12_fits { frames := 5, cells := 0, slots := 0, locals := 113 }).room s m ([.ref (α.1 1), .int p1, .int p2, .int p3, .int p4] : List Value).toArray below meth c (MQ below (va_Qi K (sm_B sm_wM D α) A) ([.ref (α.1 1), .int p1, .int p2, .int p3, .int p4] : List Value).toArray s 0 0 A) D A 7 (sm_wM σ α) 463 [] [.int y0] := by
    intro σ y0 hF H locs ls hP hS hl
    unfold mp_X12_fits_463 at hF
    obtain ⟨h6, hF⟩ := hF
    exact W.zret (v := y0) hx hb hr h6.1 (fun t ht hW => ⟨⟨y0, σ, rfl, hF, (by unfold sm_B; rw [ht]; exact hP)⟩, hS.F ht⟩) hS.2.2 dX12_fits_463
  have B462 : ∀ (σ : sm_S), mp_X12_fits_462 K σ → sm_J p l e (headSpec wp_X12_fits { frames := 5, cells := 0, slots := 0, locals := 113 }).room s m ([.ref (α.1 1), .int p1, .int p2, .int p3, .int p4] : List Value).toArray below meth c (MQ below (va_Qi K (sm_B sm_wM D α) A) ([.ref (α.1 1), .int p1, .int p2, .int p3, .int p4] : List Value).toArray s 0 0 A) D A 7 (sm_wM σ α) 462 [] [] := by
    intro σ hF H locs ls hP hS hl
    unfold mp_X12_fits_462 at hF
    refine lv_iconst (v := 0) hx hb dX12_fits_462 (by decide) ?_
    exact B463 σ 0 hF H locs ls hP hS (lv_sub hl [] rfl)
  have B438 : ∀ (σ : sm_S) (y0 : Int32), mp_X12_fits_438 K σ y0 → sm_J p l e (headSpec wp_X12_fits { frames := 5, cells := 0, slots := 0, locals := 113 }).room s m ([.ref (α.1 1), .int p1, .int p2, .int p3, .int p4] : List Value).toArray below meth c (MQ below (va_Qi K (sm_B sm_wM D α) A) ([.ref (α.1 1), .int p1, .int p2, .int p3, .int p4] : List Value).toArray s 0 0 A) D A 7 (sm_wM σ α) 438 [] [.int y0] := by
    intro σ y0 hF H locs ls hP hS hl
    unfold mp_X12_fits_438 at hF
    obtain ⟨h7, hF⟩ := hF
    exact W.zret (v := y0) hx hb hr h7.1 (fun t ht hW => ⟨⟨y0, σ, rfl, hF, (by unfold sm_B; rw [ht]; exact hP)⟩, hS.F ht⟩) hS.2.2 dX12_fits_438
  have B437 : ∀ (σ : sm_S), mp_X12_fits_437 K σ → sm_J p l e (headSpec wp_X12_fits { frames := 5, cells := 0, slots := 0, locals := 113 }).room s m ([.ref (α.1 1), .int p1, .int p2, .int p3, .int p4] : List Value).toArray below meth c (MQ below (va_Qi K (sm_B sm_wM D α) A) ([.ref (α.1 1), .int p1, .int p2, .int p3, .int p4] : List Value).toArray s 0 0 A) D A 7 (sm_wM σ α) 437 [] [] := by
    intro σ hF H locs ls hP hS hl
    unfold mp_X12_fits_437 at hF
    refine lv_iconst (v := 0) hx hb dX12_fits_437 (by decide) ?_
    exact B438 σ 0 hF H locs ls hP hS (lv_sub hl [] rfl)
  have B415 : ∀ (σ : sm_S) (y0 : Int32), mp_X12_fits_415 K σ y0 → sm_J p l e (headSpec wp_X12_fits { frames := 5, cells := 0, slots := 0, locals := 113 }).room s m ([.ref (α.1 1), .int p1, .int p2, .int p3, .int p4] : List Value).toArray below meth c (MQ below (va_Qi K (sm_B sm_wM D α) A) ([.ref (α.1 1), .int p1, .int p2, .int p3, .int p4] : List Value).toArray s 0 0 A) D A 7 (sm_wM σ α) 415 [] [.int y0] := by
    intro σ y0 hF H locs ls hP hS hl
    unfold mp_X12_fits_415 at hF
    obtain ⟨h8, hF⟩ := hF
    exact W.zret (v := y0) hx hb hr h8.1 (fun t ht hW => ⟨⟨y0, σ, rfl, hF, (by unfold sm_B; rw [ht]; exact hP)⟩, hS.F ht⟩) hS.2.2 dX12_fits_415
  have B414 : ∀ (σ : sm_S), mp_X12_fits_414 K σ → sm_J p l e (headSpec wp_X12_fits { frames := 5, cells := 0, slots := 0, locals := 113 }).room s m ([.ref (α.1 1), .int p1, .int p2, .int p3, .int p4] : List Value).toArray below meth c (MQ below (va_Qi K (sm_B sm_wM D α) A) ([.ref (α.1 1), .int p1, .int p2, .int p3, .int p4] : List Value).toArray s 0 0 A) D A 7 (sm_wM σ α) 414 [] [] := by
    intro σ hF H locs ls hP hS hl
    unfold mp_X12_fits_414 at hF
    refine lv_iconst (v := 0) hx hb dX12_fits_414 (by decide) ?_
    exact B415 σ 0 hF H locs ls hP hS (lv_sub hl [] rfl)
  have B375 : ∀ (σ : sm_S) (y0 : Int32), mp_X12_fits_375 K σ y0 → sm_J p l e (headSpec wp_X12_fits { frames := 5, cells := 0, slots := 0, locals := 113 }).room s m ([.ref (α.1 1), .int p1, .int p2, .int p3, .int p4] : List Value).toArray below meth c (MQ below (va_Qi K (sm_B sm_wM D α) A) ([.ref (α.1 1), .int p1, .int p2, .int p3, .int p4] : List Value).toArray s 0 0 A) D A 7 (sm_wM σ α) 375 [] [.int y0] := by
    intro σ y0 hF H locs ls hP hS hl
    unfold mp_X12_fits_375 at hF
    obtain ⟨h9, hF⟩ := hF
    exact W.zret (v := y0) hx hb hr h9.1 (fun t ht hW => ⟨⟨y0, σ, rfl, hF, (by unfold sm_B; rw [ht]; exact hP)⟩, hS.F ht⟩) hS.2.2 dX12_fits_375
  have B374 : ∀ (σ : sm_S), mp_X12_fits_374 K σ → sm_J p l e (headSpec wp_X12_fits { frames := 5, cells := 0, slots := 0, locals := 113 }).room s m ([.ref (α.1 1), .int p1, .int p2, .int p3, .int p4] : List Value).toArray below meth c (MQ below (va_Qi K (sm_B sm_wM D α) A) ([.ref (α.1 1), .int p1, .int p2, .int p3, .int p4] : List Value).toArray s 0 0 A) D A 7 (sm_wM σ α) 374 [] [] := by
    intro σ hF H locs ls hP hS hl
    unfold mp_X12_fits_374 at hF
    refine lv_iconst (v := 0) hx hb dX12_fits_374 (by decide) ?_
    exact B375 σ 0 hF H locs ls hP hS (lv_sub hl [] rfl)
  have B324 : ∀ (σ : sm_S) (y0 : Int32), mp_X12_fits_324 K σ y0 → sm_J p l e (headSpec wp_X12_fits { frames := 5, cells := 0, slots := 0, locals := 113 }).room s m ([.ref (α.1 1), .int p1, .int p2, .int p3, .int p4] : List Value).toArray below meth c (MQ below (va_Qi K (sm_B sm_wM D α) A) ([.ref (α.1 1), .int p1, .int p2, .int p3, .int p4] : List Value).toArray s 0 0 A) D A 7 (sm_wM σ α) 324 [] [.int y0] := by
    intro σ y0 hF H locs ls hP hS hl
    unfold mp_X12_fits_324 at hF
    obtain ⟨h10, hF⟩ := hF
    exact W.zret (v := y0) hx hb hr h10.1 (fun t ht hW => ⟨⟨y0, σ, rfl, hF, (by unfold sm_B; rw [ht]; exact hP)⟩, hS.F ht⟩) hS.2.2 dX12_fits_324
  have B323 : ∀ (σ : sm_S), mp_X12_fits_323 K σ → sm_J p l e (headSpec wp_X12_fits { frames := 5, cells := 0, slots := 0, locals := 113 }).room s m ([.ref (α.1 1), .int p1, .int p2, .int p3, .int p4] : List Value).toArray below meth c (MQ below (va_Qi K (sm_B sm_wM D α) A) ([.ref (α.1 1), .int p1, .int p2, .int p3, .int p4] : List Value).toArray s 0 0 A) D A 7 (sm_wM σ α) 323 [] [] := by
    intro σ hF H locs ls hP hS hl
    unfold mp_X12_fits_323 at hF
    refine lv_iconst (v := 0) hx hb dX12_fits_323 (by decide) ?_
    exact B324 σ 0 hF H locs ls hP hS (lv_sub hl [] rfl)
  have B85 : ∀ (σ : sm_S) (x1 : Int32) (x2 : Int32) (x3 : Int32) (x4 : Int32), mp_X12_fits_85 K σ x1 x2 x3 x4 → sm_J p l e (headSpec wp_X12_fits { frames := 5, cells := 0, slots := 0, locals := 113 }).room s m ([.ref (α.1 1), .int p1, .int p2, .int p3, .int p4] : List Value).toArray below meth c (MQ below (va_Qi K (sm_B sm_wM D α) A) ([.ref (α.1 1), .int p1, .int p2, .int p3, .int p4] : List Value).toArray s 0 0 A) D A 7 (sm_wM σ α) 85 [(0, .ref (α.1 1)), (1, .int x1), (2, .int x2), (3, .int x3), (4, .int x4)] [] := by
    intro σ x1 x2 x3 x4 hF H locs ls hP hS hl
    unfold mp_X12_fits_85 at hF
    refine lv_iload_n hx hb dX12_fits_85 rfl (lv_at hl 2 rfl) ?_
    obtain ⟨gh11, hF⟩ := hF
    by_cases h11 : x2 = 0
    · refine lv_tableIn (tgt := 268) hx hb dX12_fits_86 (by rw [h11]; decide) (by rw [h11]; decide) (by rw [h11]; rfl) (by decide) ?_
      clear hF
      have hF := gh11 h11
      clear gh11
      refine lv_aload_n hx hb dX12_fits_268 rfl (lv_at hl 0 rfl) ?_
      refine lv_iload_n hx hb dX12_fits_269 rfl (lv_at hl 1 rfl) ?_
      refine lv_iconst (v := 0) hx hb dX12_fits_270 (by decide) ?_
      refine sm_vi (As := [.int x1, .int 0]) (rest := []) hP hK hD hE hS hA ⟨hx, hb, hml, hown, hts⟩ hl.1 (c_X12_push l D H.size t0 σ α x1 0 _ hF) (cwV 2 hts wg_X12_fits_X12_push_80 rfl rfl rfl (by decide +kernel) ⟨Nat.le_of_ble_eq_true rfl, Nat.le_of_ble_eq_true rfl⟩) (va_recv hK hP (ci := 12) (q0 := 1) rfl (sm_gX12 σ α)) rfl rfl (Nat.le_of_ble_eq_true rfl) dX12_fits_271 ⟨Nat.zero_le _, Nat.zero_le _⟩ (fun r13 σ12 H locs hF hP hS => ?_)
      obtain ⟨h14, hF⟩ := hF
      exact W.zret (v := r13) hx hb hr h14.1 (fun t ht hW => ⟨⟨r13, σ12, rfl, hF, (by unfold sm_B; rw [ht]; exact hP)⟩, hS.F ht⟩) hS.2.2 dX12_fits_274
    clear gh11
    obtain ⟨gh15, hF⟩ := hF
    by_cases h15 : x2 = 1
    · refine lv_tableIn (tgt := 275) hx hb dX12_fits_86 (by rw [h15]; decide) (by rw [h15]; decide) (by rw [h15]; rfl) (by decide) ?_
      clear hF
      have hF := gh15 h15
      clear gh15
      refine lv_aload_n hx hb dX12_fits_275 rfl (lv_at hl 0 rfl) ?_
      refine lv_iload_n hx hb dX12_fits_276 rfl (lv_at hl 1 rfl) ?_
      refine lv_bipush (v := 97) hx hb dX12_fits_277 (by decide) ?_
      refine sm_vi (As := [.int x1, .int 97]) (rest := []) hP hK hD hE hS hA ⟨hx, hb, hml, hown, hts⟩ hl.1 (c_X12_push l D H.size t0 σ α x1 97 _ hF) (cwV 2 hts wg_X12_fits_X12_push_80 rfl rfl rfl (by decide +kernel) ⟨Nat.le_of_ble_eq_true rfl, Nat.le_of_ble_eq_true rfl⟩) (va_recv hK hP (ci := 12) (q0 := 1) rfl (sm_gX12 σ α)) rfl rfl (Nat.le_of_ble_eq_true rfl) dX12_fits_279 ⟨Nat.zero_le _, Nat.zero_le _⟩ (fun r17 σ16 H locs hF hP hS => ?_)
      obtain ⟨h18, hF⟩ := hF
      exact W.zret (v := r17) hx hb hr h18.1 (fun t ht hW => ⟨⟨r17, σ16, rfl, hF, (by unfold sm_B; rw [ht]; exact hP)⟩, hS.F ht⟩) hS.2.2 dX12_fits_282
    clear gh15
    obtain ⟨gh19, hF⟩ := hF
    by_cases h19 : x2 = 2
    · refine lv_tableIn (tgt := 597) hx hb dX12_fits_86 (by rw [h19]; decide) (by rw [h19]; decide) (by rw [h19]; rfl) (by decide) ?_
      clear hF
      have hF := gh19 h19
      clear gh19
      refine lv_aload_n hx hb dX12_fits_597 rfl (lv_at hl 0 rfl) ?_
      refine lv_iload_n hx hb dX12_fits_598 rfl (lv_at hl 1 rfl) ?_
      refine sm_vi (As := [.int x1]) (rest := []) hP hK hD hE hS hA ⟨hx, hb, hml, hown, hts⟩ hl.1 (c_X12_pop l D H.size t0 σ α x1 _ hF) (cwV 1 hts wg_X12_fits_X12_pop_61 rfl rfl rfl (by decide +kernel) ⟨Nat.le_of_ble_eq_true rfl, Nat.le_of_ble_eq_true rfl⟩) (va_recv hK hP (ci := 12) (q0 := 1) rfl (sm_gX12 σ α)) rfl rfl (Nat.le_of_ble_eq_true rfl) dX12_fits_599 ⟨Nat.zero_le _, Nat.zero_le _⟩ (fun r21 σ20 H locs hF hP hS => ?_)
      refine lv_istore (lv' := [(6, .int r21), (0, .ref (α.1 1)), (1, .int x1), (2, .int x2), (3, .int x3), (4, .int x4)]) hx hb dX12_fits_602 hl (by decide) rfl (fun ls hl => ?_)
      refine lv_iload hx hb dX12_fits_604 (lv_at hl 0 rfl) ?_
      refine lv_bipush (v := 97) hx hb dX12_fits_606 (by decide) ?_
      refine lv_icmp_eq (tgt := 619) hx hb dX12_fits_608 (by decide) (fun h22 => ?_) (fun h22 => ?_)
      · replace hF := hF.1 h22
        exact B619 σ20 hF H locs ls hP hS (lv_sub hl [] rfl)
      · replace hF := hF.2 h22
        refine lv_iload hx hb dX12_fits_611 (lv_at hl 0 rfl) ?_
        refine sm_si (As := [.int r21]) (rest := []) hP hK hD hE hS hA ⟨hx, hb, hml, hown, hts⟩ hl.1 (c_X12_isSome l D H.size t0 σ20 α r21 _ hF) (va_cwS 1 hts wg_X12_fits_X12_isSome_7 rfl rfl rfl (by decide +kernel) ⟨Nat.le_of_ble_eq_true rfl, Nat.le_of_ble_eq_true rfl⟩) rfl rfl (Nat.le_of_ble_eq_true rfl) dX12_fits_613 ⟨Nat.zero_le _, Nat.zero_le _⟩ (fun r24 σ23 H locs hF hP hS => ?_)
        refine lv_if_eq (tgt := 623) hx hb dX12_fits_616 (by decide) (fun h25 => ?_) (fun h25 => ?_)
        · replace hF := hF.1 h25
          refine lv_iconst (v := 0) hx hb dX12_fits_623 (by decide) ?_
          exact B624 σ23 0 hF H locs ls hP hS (lv_sub hl [] rfl)
        · replace hF := hF.2 h25
          exact B619 σ23 hF H locs ls hP hS (lv_sub hl [] rfl)
    clear gh19
    obtain ⟨gh26, hF⟩ := hF
    by_cases h26 : x2 = 3
    · refine lv_tableIn (tgt := 597) hx hb dX12_fits_86 (by rw [h26]; decide) (by rw [h26]; decide) (by rw [h26]; rfl) (by decide) ?_
      clear hF
      have hF := gh26 h26
      clear gh26
      refine lv_aload_n hx hb dX12_fits_597 rfl (lv_at hl 0 rfl) ?_
      refine lv_iload_n hx hb dX12_fits_598 rfl (lv_at hl 1 rfl) ?_
      refine sm_vi (As := [.int x1]) (rest := []) hP hK hD hE hS hA ⟨hx, hb, hml, hown, hts⟩ hl.1 (c_X12_pop l D H.size t0 σ α x1 _ hF) (cwV 1 hts wg_X12_fits_X12_pop_61 rfl rfl rfl (by decide +kernel) ⟨Nat.le_of_ble_eq_true rfl, Nat.le_of_ble_eq_true rfl⟩) (va_recv hK hP (ci := 12) (q0 := 1) rfl (sm_gX12 σ α)) rfl rfl (Nat.le_of_ble_eq_true rfl) dX12_fits_599 ⟨Nat.zero_le _, Nat.zero_le _⟩ (fun r28 σ27 H locs hF hP hS => ?_)
      refine lv_istore (lv' := [(6, .int r28), (0, .ref (α.1 1)), (1, .int x1), (2, .int x2), (3, .int x3), (4, .int x4)]) hx hb dX12_fits_602 hl (by decide) rfl (fun ls hl => ?_)
      refine lv_iload hx hb dX12_fits_604 (lv_at hl 0 rfl) ?_
      refine lv_bipush (v := 97) hx hb dX12_fits_606 (by decide) ?_
      refine lv_icmp_eq (tgt := 619) hx hb dX12_fits_608 (by decide) (fun h29 => ?_) (fun h29 => ?_)
      · replace hF := hF.1 h29
        exact B619 σ27 hF H locs ls hP hS (lv_sub hl [] rfl)
      · replace hF := hF.2 h29
        refine lv_iload hx hb dX12_fits_611 (lv_at hl 0 rfl) ?_
        refine sm_si (As := [.int r28]) (rest := []) hP hK hD hE hS hA ⟨hx, hb, hml, hown, hts⟩ hl.1 (c_X12_isSome l D H.size t0 σ27 α r28 _ hF) (va_cwS 1 hts wg_X12_fits_X12_isSome_7 rfl rfl rfl (by decide +kernel) ⟨Nat.le_of_ble_eq_true rfl, Nat.le_of_ble_eq_true rfl⟩) rfl rfl (Nat.le_of_ble_eq_true rfl) dX12_fits_613 ⟨Nat.zero_le _, Nat.zero_le _⟩ (fun r31 σ30 H locs hF hP hS => ?_)
        refine lv_if_eq (tgt := 623) hx hb dX12_fits_616 (by decide) (fun h32 => ?_) (fun h32 => ?_)
        · replace hF := hF.1 h32
          refine lv_iconst (v := 0) hx hb dX12_fits_623 (by decide) ?_
          exact B624 σ30 0 hF H locs ls hP hS (lv_sub hl [] rfl)
        · replace hF := hF.2 h32
          exact B619 σ30 hF H locs ls hP hS (lv_sub hl [] rfl)
    clear gh26
    obtain ⟨gh33, hF⟩ := hF
    by_cases h33 : x2 = 4
    · refine lv_tableIn (tgt := 597) hx hb dX12_fits_86 (by rw [h33]; decide) (by rw [h33]; decide) (by rw [h33]; rfl) (by decide) ?_
      clear hF
      have hF := gh33 h33
      clear gh33
      refine lv_aload_n hx hb dX12_fits_597 rfl (lv_at hl 0 rfl) ?_
      refine lv_iload_n hx hb dX12_fits_598 rfl (lv_at hl 1 rfl) ?_
      refine sm_vi (As := [.int x1]) (rest := []) hP hK hD hE hS hA ⟨hx, hb, hml, hown, hts⟩ hl.1 (c_X12_pop l D H.size t0 σ α x1 _ hF) (cwV 1 hts wg_X12_fits_X12_pop_61 rfl rfl rfl (by decide +kernel) ⟨Nat.le_of_ble_eq_true rfl, Nat.le_of_ble_eq_true rfl⟩) (va_recv hK hP (ci := 12) (q0 := 1) rfl (sm_gX12 σ α)) rfl rfl (Nat.le_of_ble_eq_true rfl) dX12_fits_599 ⟨Nat.zero_le _, Nat.zero_le _⟩ (fun r35 σ34 H locs hF hP hS => ?_)
      refine lv_istore (lv' := [(6, .int r35), (0, .ref (α.1 1)), (1, .int x1), (2, .int x2), (3, .int x3), (4, .int x4)]) hx hb dX12_fits_602 hl (by decide) rfl (fun ls hl => ?_)
      refine lv_iload hx hb dX12_fits_604 (lv_at hl 0 rfl) ?_
      refine lv_bipush (v := 97) hx hb dX12_fits_606 (by decide) ?_
      refine lv_icmp_eq (tgt := 619) hx hb dX12_fits_608 (by decide) (fun h36 => ?_) (fun h36 => ?_)
      · replace hF := hF.1 h36
        exact B619 σ34 hF H locs ls hP hS (lv_sub hl [] rfl)
      · replace hF := hF.2 h36
        refine lv_iload hx hb dX12_fits_611 (lv_at hl 0 rfl) ?_
        refine sm_si (As := [.int r35]) (rest := []) hP hK hD hE hS hA ⟨hx, hb, hml, hown, hts⟩ hl.1 (c_X12_isSome l D H.size t0 σ34 α r35 _ hF) (va_cwS 1 hts wg_X12_fits_X12_isSome_7 rfl rfl rfl (by decide +kernel) ⟨Nat.le_of_ble_eq_true rfl, Nat.le_of_ble_eq_true rfl⟩) rfl rfl (Nat.le_of_ble_eq_true rfl) dX12_fits_613 ⟨Nat.zero_le _, Nat.zero_le _⟩ (fun r38 σ37 H locs hF hP hS => ?_)
        refine lv_if_eq (tgt := 623) hx hb dX12_fits_616 (by decide) (fun h39 => ?_) (fun h39 => ?_)
        · replace hF := hF.1 h39
          refine lv_iconst (v := 0) hx hb dX12_fits_623 (by decide) ?_
          exact B624 σ37 0 hF H locs ls hP hS (lv_sub hl [] rfl)
        · replace hF := hF.2 h39
          exact B619 σ37 hF H locs ls hP hS (lv_sub hl [] rfl)
    clear gh33
    obtain ⟨gh40, hF⟩ := hF
    by_cases h40 : x2 = 5
    · refine lv_tableIn (tgt := 597) hx hb dX12_fits_86 (by rw [h40]; decide) (by rw [h40]; decide) (by rw [h40]; rfl) (by decide) ?_
      clear hF
      have hF := gh40 h40
      clear gh40
      refine lv_aload_n hx hb dX12_fits_597 rfl (lv_at hl 0 rfl) ?_
      refine lv_iload_n hx hb dX12_fits_598 rfl (lv_at hl 1 rfl) ?_
      refine sm_vi (As := [.int x1]) (rest := []) hP hK hD hE hS hA ⟨hx, hb, hml, hown, hts⟩ hl.1 (c_X12_pop l D H.size t0 σ α x1 _ hF) (cwV 1 hts wg_X12_fits_X12_pop_61 rfl rfl rfl (by decide +kernel) ⟨Nat.le_of_ble_eq_true rfl, Nat.le_of_ble_eq_true rfl⟩) (va_recv hK hP (ci := 12) (q0 := 1) rfl (sm_gX12 σ α)) rfl rfl (Nat.le_of_ble_eq_true rfl) dX12_fits_599 ⟨Nat.zero_le _, Nat.zero_le _⟩ (fun r42 σ41 H locs hF hP hS => ?_)
      refine lv_istore (lv' := [(6, .int r42), (0, .ref (α.1 1)), (1, .int x1), (2, .int x2), (3, .int x3), (4, .int x4)]) hx hb dX12_fits_602 hl (by decide) rfl (fun ls hl => ?_)
      refine lv_iload hx hb dX12_fits_604 (lv_at hl 0 rfl) ?_
      refine lv_bipush (v := 97) hx hb dX12_fits_606 (by decide) ?_
      refine lv_icmp_eq (tgt := 619) hx hb dX12_fits_608 (by decide) (fun h43 => ?_) (fun h43 => ?_)
      · replace hF := hF.1 h43
        exact B619 σ41 hF H locs ls hP hS (lv_sub hl [] rfl)
      · replace hF := hF.2 h43
        refine lv_iload hx hb dX12_fits_611 (lv_at hl 0 rfl) ?_
        refine sm_si (As := [.int r42]) (rest := []) hP hK hD hE hS hA ⟨hx, hb, hml, hown, hts⟩ hl.1 (c_X12_isSome l D H.size t0 σ41 α r42 _ hF) (va_cwS 1 hts wg_X12_fits_X12_isSome_7 rfl rfl rfl (by decide +kernel) ⟨Nat.le_of_ble_eq_true rfl, Nat.le_of_ble_eq_true rfl⟩) rfl rfl (Nat.le_of_ble_eq_true rfl) dX12_fits_613 ⟨Nat.zero_le _, Nat.zero_le _⟩ (fun r45 σ44 H locs hF hP hS => ?_)
        refine lv_if_eq (tgt := 623) hx hb dX12_fits_616 (by decide) (fun h46 => ?_) (fun h46 => ?_)
        · replace hF := hF.1 h46
          refine lv_iconst (v := 0) hx hb dX12_fits_623 (by decide) ?_
          exact B624 σ44 0 hF H locs ls hP hS (lv_sub hl [] rfl)
        · replace hF := hF.2 h46
          exact B619 σ44 hF H locs ls hP hS (lv_sub hl [] rfl)
    clear gh40
    obtain ⟨gh47, hF⟩ := hF
    by_cases h47 : x2 = 6
    · refine lv_tableIn (tgt := 597) hx hb dX12_fits_86 (by rw [h47]; decide) (by rw [h47]; decide) (by rw [h47]; rfl) (by decide) ?_
      clear hF
      have hF := gh47 h47
      clear gh47
      refine lv_aload_n hx hb dX12_fits_597 rfl (lv_at hl 0 rfl) ?_
      refine lv_iload_n hx hb dX12_fits_598 rfl (lv_at hl 1 rfl) ?_
      refine sm_vi (As := [.int x1]) (rest := []) hP hK hD hE hS hA ⟨hx, hb, hml, hown, hts⟩ hl.1 (c_X12_pop l D H.size t0 σ α x1 _ hF) (cwV 1 hts wg_X12_fits_X12_pop_61 rfl rfl rfl (by decide +kernel) ⟨Nat.le_of_ble_eq_true rfl, Nat.le_of_ble_eq_true rfl⟩) (va_recv hK hP (ci := 12) (q0 := 1) rfl (sm_gX12 σ α)) rfl rfl (Nat.le_of_ble_eq_true rfl) dX12_fits_599 ⟨Nat.zero_le _, Nat.zero_le _⟩ (fun r49 σ48 H locs hF hP hS => ?_)
      refine lv_istore (lv' := [(6, .int r49), (0, .ref (α.1 1)), (1, .int x1), (2, .int x2), (3, .int x3), (4, .int x4)]) hx hb dX12_fits_602 hl (by decide) rfl (fun ls hl => ?_)
      refine lv_iload hx hb dX12_fits_604 (lv_at hl 0 rfl) ?_
      refine lv_bipush (v := 97) hx hb dX12_fits_606 (by decide) ?_
      refine lv_icmp_eq (tgt := 619) hx hb dX12_fits_608 (by decide) (fun h50 => ?_) (fun h50 => ?_)
      · replace hF := hF.1 h50
        exact B619 σ48 hF H locs ls hP hS (lv_sub hl [] rfl)
      · replace hF := hF.2 h50
        refine lv_iload hx hb dX12_fits_611 (lv_at hl 0 rfl) ?_
        refine sm_si (As := [.int r49]) (rest := []) hP hK hD hE hS hA ⟨hx, hb, hml, hown, hts⟩ hl.1 (c_X12_isSome l D H.size t0 σ48 α r49 _ hF) (va_cwS 1 hts wg_X12_fits_X12_isSome_7 rfl rfl rfl (by decide +kernel) ⟨Nat.le_of_ble_eq_true rfl, Nat.le_of_ble_eq_true rfl⟩) rfl rfl (Nat.le_of_ble_eq_true rfl) dX12_fits_613 ⟨Nat.zero_le _, Nat.zero_le _⟩ (fun r52 σ51 H locs hF hP hS => ?_)
        refine lv_if_eq (tgt := 623) hx hb dX12_fits_616 (by decide) (fun h53 => ?_) (fun h53 => ?_)
        · replace hF := hF.1 h53
          refine lv_iconst (v := 0) hx hb dX12_fits_623 (by decide) ?_
          exact B624 σ51 0 hF H locs ls hP hS (lv_sub hl [] rfl)
        · replace hF := hF.2 h53
          exact B619 σ51 hF H locs ls hP hS (lv_sub hl [] rfl)
    clear gh47
    obtain ⟨gh54, hF⟩ := hF
    by_cases h54 : x2 = 7
    · refine lv_tableIn (tgt := 597) hx hb dX12_fits_86 (by rw [h54]; decide) (by rw [h54]; decide) (by rw [h54]; rfl) (by decide) ?_
      clear hF
      have hF := gh54 h54
      clear gh54
      refine lv_aload_n hx hb dX12_fits_597 rfl (lv_at hl 0 rfl) ?_
      refine lv_iload_n hx hb dX12_fits_598 rfl (lv_at hl 1 rfl) ?_
      refine sm_vi (As := [.int x1]) (rest := []) hP hK hD hE hS hA ⟨hx, hb, hml, hown, hts⟩ hl.1 (c_X12_pop l D H.size t0 σ α x1 _ hF) (cwV 1 hts wg_X12_fits_X12_pop_61 rfl rfl rfl (by decide +kernel) ⟨Nat.le_of_ble_eq_true rfl, Nat.le_of_ble_eq_true rfl⟩) (va_recv hK hP (ci := 12) (q0 := 1) rfl (sm_gX12 σ α)) rfl rfl (Nat.le_of_ble_eq_true rfl) dX12_fits_599 ⟨Nat.zero_le _, Nat.zero_le _⟩ (fun r56 σ55 H locs hF hP hS => ?_)
      refine lv_istore (lv' := [(6, .int r56), (0, .ref (α.1 1)), (1, .int x1), (2, .int x2), (3, .int x3), (4, .int x4)]) hx hb dX12_fits_602 hl (by decide) rfl (fun ls hl => ?_)
      refine lv_iload hx hb dX12_fits_604 (lv_at hl 0 rfl) ?_
      refine lv_bipush (v := 97) hx hb dX12_fits_606 (by decide) ?_
      refine lv_icmp_eq (tgt := 619) hx hb dX12_fits_608 (by decide) (fun h57 => ?_) (fun h57 => ?_)
      · replace hF := hF.1 h57
        exact B619 σ55 hF H locs ls hP hS (lv_sub hl [] rfl)
      · replace hF := hF.2 h57
        refine lv_iload hx hb dX12_fits_611 (lv_at hl 0 rfl) ?_
        refine sm_si (As := [.int r56]) (rest := []) hP hK hD hE hS hA ⟨hx, hb, hml, hown, hts⟩ hl.1 (c_X12_isSome l D H.size t0 σ55 α r56 _ hF) (va_cwS 1 hts wg_X12_fits_X12_isSome_7 rfl rfl rfl (by decide +kernel) ⟨Nat.le_of_ble_eq_true rfl, Nat.le_of_ble_eq_true rfl⟩) rfl rfl (Nat.le_of_ble_eq_true rfl) dX12_fits_613 ⟨Nat.zero_le _, Nat.zero_le _⟩ (fun r59 σ58 H locs hF hP hS => ?_)
        refine lv_if_eq (tgt := 623) hx hb dX12_fits_616 (by decide) (fun h60 => ?_) (fun h60 => ?_)
        · replace hF := hF.1 h60
          refine lv_iconst (v := 0) hx hb dX12_fits_623 (by decide) ?_
          exact B624 σ58 0 hF H locs ls hP hS (lv_sub hl [] rfl)
        · replace hF := hF.2 h60
          exact B619 σ58 hF H locs ls hP hS (lv_sub hl [] rfl)
    clear gh54
    obtain ⟨gh61, hF⟩ := hF
    by_cases h61 : x2 = 8
    · refine lv_tableIn (tgt := 597) hx hb dX12_fits_86 (by rw [h61]; decide) (by rw [h61]; decide) (by rw [h61]; rfl) (by decide) ?_
      clear hF
      have hF := gh61 h61
      clear gh61
      refine lv_aload_n hx hb dX12_fits_597 rfl (lv_at hl 0 rfl) ?_
      refine lv_iload_n hx hb dX12_fits_598 rfl (lv_at hl 1 rfl) ?_
      refine sm_vi (As := [.int x1]) (rest := []) hP hK hD hE hS hA ⟨hx, hb, hml, hown, hts⟩ hl.1 (c_X12_pop l D H.size t0 σ α x1 _ hF) (cwV 1 hts wg_X12_fits_X12_pop_61 rfl rfl rfl (by decide +kernel) ⟨Nat.le_of_ble_eq_true rfl, Nat.le_of_ble_eq_true rfl⟩) (va_recv hK hP (ci := 12) (q0 := 1) rfl (sm_gX12 σ α)) rfl rfl (Nat.le_of_ble_eq_true rfl) dX12_fits_599 ⟨Nat.zero_le _, Nat.zero_le _⟩ (fun r63 σ62 H locs hF hP hS => ?_)
      refine lv_istore (lv' := [(6, .int r63), (0, .ref (α.1 1)), (1, .int x1), (2, .int x2), (3, .int x3), (4, .int x4)]) hx hb dX12_fits_602 hl (by decide) rfl (fun ls hl => ?_)
      refine lv_iload hx hb dX12_fits_604 (lv_at hl 0 rfl) ?_
      refine lv_bipush (v := 97) hx hb dX12_fits_606 (by decide) ?_
      refine lv_icmp_eq (tgt := 619) hx hb dX12_fits_608 (by decide) (fun h64 => ?_) (fun h64 => ?_)
      · replace hF := hF.1 h64
        exact B619 σ62 hF H locs ls hP hS (lv_sub hl [] rfl)
      · replace hF := hF.2 h64
        refine lv_iload hx hb dX12_fits_611 (lv_at hl 0 rfl) ?_
        refine sm_si (As := [.int r63]) (rest := []) hP hK hD hE hS hA ⟨hx, hb, hml, hown, hts⟩ hl.1 (c_X12_isSome l D H.size t0 σ62 α r63 _ hF) (va_cwS 1 hts wg_X12_fits_X12_isSome_7 rfl rfl rfl (by decide +kernel) ⟨Nat.le_of_ble_eq_true rfl, Nat.le_of_ble_eq_true rfl⟩) rfl rfl (Nat.le_of_ble_eq_true rfl) dX12_fits_613 ⟨Nat.zero_le _, Nat.zero_le _⟩ (fun r66 σ65 H locs hF hP hS => ?_)
        refine lv_if_eq (tgt := 623) hx hb dX12_fits_616 (by decide) (fun h67 => ?_) (fun h67 => ?_)
        · replace hF := hF.1 h67
          refine lv_iconst (v := 0) hx hb dX12_fits_623 (by decide) ?_
          exact B624 σ65 0 hF H locs ls hP hS (lv_sub hl [] rfl)
        · replace hF := hF.2 h67
          exact B619 σ65 hF H locs ls hP hS (lv_sub hl [] rfl)
    clear gh61
    obtain ⟨gh68, hF⟩ := hF
    by_cases h68 : x2 = 9
    · refine lv_tableIn (tgt := 597) hx hb dX12_fits_86 (by rw [h68]; decide) (by rw [h68]; decide) (by rw [h68]; rfl) (by decide) ?_
      clear hF
      have hF := gh68 h68
      clear gh68
      refine lv_aload_n hx hb dX12_fits_597 rfl (lv_at hl 0 rfl) ?_
      refine lv_iload_n hx hb dX12_fits_598 rfl (lv_at hl 1 rfl) ?_
      refine sm_vi (As := [.int x1]) (rest := []) hP hK hD hE hS hA ⟨hx, hb, hml, hown, hts⟩ hl.1 (c_X12_pop l D H.size t0 σ α x1 _ hF) (cwV 1 hts wg_X12_fits_X12_pop_61 rfl rfl rfl (by decide +kernel) ⟨Nat.le_of_ble_eq_true rfl, Nat.le_of_ble_eq_true rfl⟩) (va_recv hK hP (ci := 12) (q0 := 1) rfl (sm_gX12 σ α)) rfl rfl (Nat.le_of_ble_eq_true rfl) dX12_fits_599 ⟨Nat.zero_le _, Nat.zero_le _⟩ (fun r70 σ69 H locs hF hP hS => ?_)
      refine lv_istore (lv' := [(6, .int r70), (0, .ref (α.1 1)), (1, .int x1), (2, .int x2), (3, .int x3), (4, .int x4)]) hx hb dX12_fits_602 hl (by decide) rfl (fun ls hl => ?_)
      refine lv_iload hx hb dX12_fits_604 (lv_at hl 0 rfl) ?_
      refine lv_bipush (v := 97) hx hb dX12_fits_606 (by decide) ?_
      refine lv_icmp_eq (tgt := 619) hx hb dX12_fits_608 (by decide) (fun h71 => ?_) (fun h71 => ?_)
      · replace hF := hF.1 h71
        exact B619 σ69 hF H locs ls hP hS (lv_sub hl [] rfl)
      · replace hF := hF.2 h71
        refine lv_iload hx hb dX12_fits_611 (lv_at hl 0 rfl) ?_
        refine sm_si (As := [.int r70]) (rest := []) hP hK hD hE hS hA ⟨hx, hb, hml, hown, hts⟩ hl.1 (c_X12_isSome l D H.size t0 σ69 α r70 _ hF) (va_cwS 1 hts wg_X12_fits_X12_isSome_7 rfl rfl rfl (by decide +kernel) ⟨Nat.le_of_ble_eq_true rfl, Nat.le_of_ble_eq_true rfl⟩) rfl rfl (Nat.le_of_ble_eq_true rfl) dX12_fits_613 ⟨Nat.zero_le _, Nat.zero_le _⟩ (fun r73 σ72 H locs hF hP hS => ?_)
        refine lv_if_eq (tgt := 623) hx hb dX12_fits_616 (by decide) (fun h74 => ?_) (fun h74 => ?_)
        · replace hF := hF.1 h74
          refine lv_iconst (v := 0) hx hb dX12_fits_623 (by decide) ?_
          exact B624 σ72 0 hF H locs ls hP hS (lv_sub hl [] rfl)
        · replace hF := hF.2 h74
          exact B619 σ72 hF H locs ls hP hS (lv_sub hl [] rfl)
    clear gh68
    obtain ⟨gh75, hF⟩ := hF
    by_cases h75 : x2 = 10
    · refine lv_tableIn (tgt := 597) hx hb dX12_fits_86 (by rw [h75]; decide) (by rw [h75]; decide) (by rw [h75]; rfl) (by decide) ?_
      clear hF
      have hF := gh75 h75
      clear gh75
      refine lv_aload_n hx hb dX12_fits_597 rfl (lv_at hl 0 rfl) ?_
      refine lv_iload_n hx hb dX12_fits_598 rfl (lv_at hl 1 rfl) ?_
      refine sm_vi (As := [.int x1]) (rest := []) hP hK hD hE hS hA ⟨hx, hb, hml, hown, hts⟩ hl.1 (c_X12_pop l D H.size t0 σ α x1 _ hF) (cwV 1 hts wg_X12_fits_X12_pop_61 rfl rfl rfl (by decide +kernel) ⟨Nat.le_of_ble_eq_true rfl, Nat.le_of_ble_eq_true rfl⟩) (va_recv hK hP (ci := 12) (q0 := 1) rfl (sm_gX12 σ α)) rfl rfl (Nat.le_of_ble_eq_true rfl) dX12_fits_599 ⟨Nat.zero_le _, Nat.zero_le _⟩ (fun r77 σ76 H locs hF hP hS => ?_)
      refine lv_istore (lv' := [(6, .int r77), (0, .ref (α.1 1)), (1, .int x1), (2, .int x2), (3, .int x3), (4, .int x4)]) hx hb dX12_fits_602 hl (by decide) rfl (fun ls hl => ?_)
      refine lv_iload hx hb dX12_fits_604 (lv_at hl 0 rfl) ?_
      refine lv_bipush (v := 97) hx hb dX12_fits_606 (by decide) ?_
      refine lv_icmp_eq (tgt := 619) hx hb dX12_fits_608 (by decide) (fun h78 => ?_) (fun h78 => ?_)
      · replace hF := hF.1 h78
        exact B619 σ76 hF H locs ls hP hS (lv_sub hl [] rfl)
      · replace hF := hF.2 h78
        refine lv_iload hx hb dX12_fits_611 (lv_at hl 0 rfl) ?_
        refine sm_si (As := [.int r77]) (rest := []) hP hK hD hE hS hA ⟨hx, hb, hml, hown, hts⟩ hl.1 (c_X12_isSome l D H.size t0 σ76 α r77 _ hF) (va_cwS 1 hts wg_X12_fits_X12_isSome_7 rfl rfl rfl (by decide +kernel) ⟨Nat.le_of_ble_eq_true rfl, Nat.le_of_ble_eq_true rfl⟩) rfl rfl (Nat.le_of_ble_eq_true rfl) dX12_fits_613 ⟨Nat.zero_le _, Nat.zero_le _⟩ (fun r80 σ79 H locs hF hP hS => ?_)
        refine lv_if_eq (tgt := 623) hx hb dX12_fits_616 (by decide) (fun h81 => ?_) (fun h81 => ?_)
        · replace hF := hF.1 h81
          refine lv_iconst (v := 0) hx hb dX12_fits_623 (by decide) ?_
          exact B624 σ79 0 hF H locs ls hP hS (lv_sub hl [] rfl)
        · replace hF := hF.2 h81
          exact B619 σ79 hF H locs ls hP hS (lv_sub hl [] rfl)
    clear gh75
    obtain ⟨gh82, hF⟩ := hF
    by_cases h82 : x2 = 11
    · refine lv_tableIn (tgt := 597) hx hb dX12_fits_86 (by rw [h82]; decide) (by rw [h82]; decide) (by rw [h82]; rfl) (by decide) ?_
      clear hF
      have hF := gh82 h82
      clear gh82
      refine lv_aload_n hx hb dX12_fits_597 rfl (lv_at hl 0 rfl) ?_
      refine lv_iload_n hx hb dX12_fits_598 rfl (lv_at hl 1 rfl) ?_
      refine sm_vi (As := [.int x1]) (rest := []) hP hK hD hE hS hA ⟨hx, hb, hml, hown, hts⟩ hl.1 (c_X12_pop l D H.size t0 σ α x1 _ hF) (cwV 1 hts wg_X12_fits_X12_pop_61 rfl rfl rfl (by decide +kernel) ⟨Nat.le_of_ble_eq_true rfl, Nat.le_of_ble_eq_true rfl⟩) (va_recv hK hP (ci := 12) (q0 := 1) rfl (sm_gX12 σ α)) rfl rfl (Nat.le_of_ble_eq_true rfl) dX12_fits_599 ⟨Nat.zero_le _, Nat.zero_le _⟩ (fun r84 σ83 H locs hF hP hS => ?_)
      refine lv_istore (lv' := [(6, .int r84), (0, .ref (α.1 1)), (1, .int x1), (2, .int x2), (3, .int x3), (4, .int x4)]) hx hb dX12_fits_602 hl (by decide) rfl (fun ls hl => ?_)
      refine lv_iload hx hb dX12_fits_604 (lv_at hl 0 rfl) ?_
      refine lv_bipush (v := 97) hx hb dX12_fits_606 (by decide) ?_
      refine lv_icmp_eq (tgt := 619) hx hb dX12_fits_608 (by decide) (fun h85 => ?_) (fun h85 => ?_)
      · replace hF := hF.1 h85
        exact B619 σ83 hF H locs ls hP hS (lv_sub hl [] rfl)
      · replace hF := hF.2 h85
        refine lv_iload hx hb dX12_fits_611 (lv_at hl 0 rfl) ?_
        refine sm_si (As := [.int r84]) (rest := []) hP hK hD hE hS hA ⟨hx, hb, hml, hown, hts⟩ hl.1 (c_X12_isSome l D H.size t0 σ83 α r84 _ hF) (va_cwS 1 hts wg_X12_fits_X12_isSome_7 rfl rfl rfl (by decide +kernel) ⟨Nat.le_of_ble_eq_true rfl, Nat.le_of_ble_eq_true rfl⟩) rfl rfl (Nat.le_of_ble_eq_true rfl) dX12_fits_613 ⟨Nat.zero_le _, Nat.zero_le _⟩ (fun r87 σ86 H locs hF hP hS => ?_)
        refine lv_if_eq (tgt := 623) hx hb dX12_fits_616 (by decide) (fun h88 => ?_) (fun h88 => ?_)
        · replace hF := hF.1 h88
          refine lv_iconst (v := 0) hx hb dX12_fits_623 (by decide) ?_
          exact B624 σ86 0 hF H locs ls hP hS (lv_sub hl [] rfl)
        · replace hF := hF.2 h88
          exact B619 σ86 hF H locs ls hP hS (lv_sub hl [] rfl)
    clear gh82
    obtain ⟨gh89, hF⟩ := hF
    by_cases h89 : x2 = 12
    · refine lv_tableIn (tgt := 597) hx hb dX12_fits_86 (by rw [h89]; decide) (by rw [h89]; decide) (by rw [h89]; rfl) (by decide) ?_
      clear hF
      have hF := gh89 h89
      clear gh89
      refine lv_aload_n hx hb dX12_fits_597 rfl (lv_at hl 0 rfl) ?_
      refine lv_iload_n hx hb dX12_fits_598 rfl (lv_at hl 1 rfl) ?_
      refine sm_vi (As := [.int x1]) (rest := []) hP hK hD hE hS hA ⟨hx, hb, hml, hown, hts⟩ hl.1 (c_X12_pop l D H.size t0 σ α x1 _ hF) (cwV 1 hts wg_X12_fits_X12_pop_61 rfl rfl rfl (by decide +kernel) ⟨Nat.le_of_ble_eq_true rfl, Nat.le_of_ble_eq_true rfl⟩) (va_recv hK hP (ci := 12) (q0 := 1) rfl (sm_gX12 σ α)) rfl rfl (Nat.le_of_ble_eq_true rfl) dX12_fits_599 ⟨Nat.zero_le _, Nat.zero_le _⟩ (fun r91 σ90 H locs hF hP hS => ?_)
      refine lv_istore (lv' := [(6, .int r91), (0, .ref (α.1 1)), (1, .int x1), (2, .int x2), (3, .int x3), (4, .int x4)]) hx hb dX12_fits_602 hl (by decide) rfl (fun ls hl => ?_)
      refine lv_iload hx hb dX12_fits_604 (lv_at hl 0 rfl) ?_
      refine lv_bipush (v := 97) hx hb dX12_fits_606 (by decide) ?_
      refine lv_icmp_eq (tgt := 619) hx hb dX12_fits_608 (by decide) (fun h92 => ?_) (fun h92 => ?_)
      · replace hF := hF.1 h92
        exact B619 σ90 hF H locs ls hP hS (lv_sub hl [] rfl)
      · replace hF := hF.2 h92
        refine lv_iload hx hb dX12_fits_611 (lv_at hl 0 rfl) ?_
        refine sm_si (As := [.int r91]) (rest := []) hP hK hD hE hS hA ⟨hx, hb, hml, hown, hts⟩ hl.1 (c_X12_isSome l D H.size t0 σ90 α r91 _ hF) (va_cwS 1 hts wg_X12_fits_X12_isSome_7 rfl rfl rfl (by decide +kernel) ⟨Nat.le_of_ble_eq_true rfl, Nat.le_of_ble_eq_true rfl⟩) rfl rfl (Nat.le_of_ble_eq_true rfl) dX12_fits_613 ⟨Nat.zero_le _, Nat.zero_le _⟩ (fun r94 σ93 H locs hF hP hS => ?_)
        refine lv_if_eq (tgt := 623) hx hb dX12_fits_616 (by decide) (fun h95 => ?_) (fun h95 => ?_)
        · replace hF := hF.1 h95
          refine lv_iconst (v := 0) hx hb dX12_fits_623 (by decide) ?_
          exact B624 σ93 0 hF H locs ls hP hS (lv_sub hl [] rfl)
        · replace hF := hF.2 h95
          exact B619 σ93 hF H locs ls hP hS (lv_sub hl [] rfl)
    clear gh89
    obtain ⟨gh96, hF⟩ := hF
    by_cases h96 : x2 = 13
    · refine lv_tableIn (tgt := 597) hx hb dX12_fits_86 (by rw [h96]; decide) (by rw [h96]; decide) (by rw [h96]; rfl) (by decide) ?_
      clear hF
      have hF := gh96 h96
      clear gh96
      refine lv_aload_n hx hb dX12_fits_597 rfl (lv_at hl 0 rfl) ?_
      refine lv_iload_n hx hb dX12_fits_598 rfl (lv_at hl 1 rfl) ?_
      refine sm_vi (As := [.int x1]) (rest := []) hP hK hD hE hS hA ⟨hx, hb, hml, hown, hts⟩ hl.1 (c_X12_pop l D H.size t0 σ α x1 _ hF) (cwV 1 hts wg_X12_fits_X12_pop_61 rfl rfl rfl (by decide +kernel) ⟨Nat.le_of_ble_eq_true rfl, Nat.le_of_ble_eq_true rfl⟩) (va_recv hK hP (ci := 12) (q0 := 1) rfl (sm_gX12 σ α)) rfl rfl (Nat.le_of_ble_eq_true rfl) dX12_fits_599 ⟨Nat.zero_le _, Nat.zero_le _⟩ (fun r98 σ97 H locs hF hP hS => ?_)
      refine lv_istore (lv' := [(6, .int r98), (0, .ref (α.1 1)), (1, .int x1), (2, .int x2), (3, .int x3), (4, .int x4)]) hx hb dX12_fits_602 hl (by decide) rfl (fun ls hl => ?_)
      refine lv_iload hx hb dX12_fits_604 (lv_at hl 0 rfl) ?_
      refine lv_bipush (v := 97) hx hb dX12_fits_606 (by decide) ?_
      refine lv_icmp_eq (tgt := 619) hx hb dX12_fits_608 (by decide) (fun h99 => ?_) (fun h99 => ?_)
      · replace hF := hF.1 h99
        exact B619 σ97 hF H locs ls hP hS (lv_sub hl [] rfl)
      · replace hF := hF.2 h99
        refine lv_iload hx hb dX12_fits_611 (lv_at hl 0 rfl) ?_
        refine sm_si (As := [.int r98]) (rest := []) hP hK hD hE hS hA ⟨hx, hb, hml, hown, hts⟩ hl.1 (c_X12_isSome l D H.size t0 σ97 α r98 _ hF) (va_cwS 1 hts wg_X12_fits_X12_isSome_7 rfl rfl rfl (by decide +kernel) ⟨Nat.le_of_ble_eq_true rfl, Nat.le_of_ble_eq_true rfl⟩) rfl rfl (Nat.le_of_ble_eq_true rfl) dX12_fits_613 ⟨Nat.zero_le _, Nat.zero_le _⟩ (fun r101 σ100 H locs hF hP hS => ?_)
        refine lv_if_eq (tgt := 623) hx hb dX12_fits_616 (by decide) (fun h102 => ?_) (fun h102 => ?_)
        · replace hF := hF.1 h102
          refine lv_iconst (v := 0) hx hb dX12_fits_623 (by decide) ?_
          exact B624 σ100 0 hF H locs ls hP hS (lv_sub hl [] rfl)
        · replace hF := hF.2 h102
          exact B619 σ100 hF H locs ls hP hS (lv_sub hl [] rfl)
    clear gh96
    obtain ⟨gh103, hF⟩ := hF
    by_cases h103 : x2 = 14
    · refine lv_tableIn (tgt := 597) hx hb dX12_fits_86 (by rw [h103]; decide) (by rw [h103]; decide) (by rw [h103]; rfl) (by decide) ?_
      clear hF
      have hF := gh103 h103
      clear gh103
      refine lv_aload_n hx hb dX12_fits_597 rfl (lv_at hl 0 rfl) ?_
      refine lv_iload_n hx hb dX12_fits_598 rfl (lv_at hl 1 rfl) ?_
      refine sm_vi (As := [.int x1]) (rest := []) hP hK hD hE hS hA ⟨hx, hb, hml, hown, hts⟩ hl.1 (c_X12_pop l D H.size t0 σ α x1 _ hF) (cwV 1 hts wg_X12_fits_X12_pop_61 rfl rfl rfl (by decide +kernel) ⟨Nat.le_of_ble_eq_true rfl, Nat.le_of_ble_eq_true rfl⟩) (va_recv hK hP (ci := 12) (q0 := 1) rfl (sm_gX12 σ α)) rfl rfl (Nat.le_of_ble_eq_true rfl) dX12_fits_599 ⟨Nat.zero_le _, Nat.zero_le _⟩ (fun r105 σ104 H locs hF hP hS => ?_)
      refine lv_istore (lv' := [(6, .int r105), (0, .ref (α.1 1)), (1, .int x1), (2, .int x2), (3, .int x3), (4, .int x4)]) hx hb dX12_fits_602 hl (by decide) rfl (fun ls hl => ?_)
      refine lv_iload hx hb dX12_fits_604 (lv_at hl 0 rfl) ?_
      refine lv_bipush (v := 97) hx hb dX12_fits_606 (by decide) ?_
      refine lv_icmp_eq (tgt := 619) hx hb dX12_fits_608 (by decide) (fun h106 => ?_) (fun h106 => ?_)
      · replace hF := hF.1 h106
        exact B619 σ104 hF H locs ls hP hS (lv_sub hl [] rfl)
      · replace hF := hF.2 h106
        refine lv_iload hx hb dX12_fits_611 (lv_at hl 0 rfl) ?_
        refine sm_si (As := [.int r105]) (rest := []) hP hK hD hE hS hA ⟨hx, hb, hml, hown, hts⟩ hl.1 (c_X12_isSome l D H.size t0 σ104 α r105 _ hF) (va_cwS 1 hts wg_X12_fits_X12_isSome_7 rfl rfl rfl (by decide +kernel) ⟨Nat.le_of_ble_eq_true rfl, Nat.le_of_ble_eq_true rfl⟩) rfl rfl (Nat.le_of_ble_eq_true rfl) dX12_fits_613 ⟨Nat.zero_le _, Nat.zero_le _⟩ (fun r108 σ107 H locs hF hP hS => ?_)
        refine lv_if_eq (tgt := 623) hx hb dX12_fits_616 (by decide) (fun h109 => ?_) (fun h109 => ?_)
        · replace hF := hF.1 h109
          refine lv_iconst (v := 0) hx hb dX12_fits_623 (by decide) ?_
          exact B624 σ107 0 hF H locs ls hP hS (lv_sub hl [] rfl)
        · replace hF := hF.2 h109
          exact B619 σ107 hF H locs ls hP hS (lv_sub hl [] rfl)
    clear gh103
    obtain ⟨gh110, hF⟩ := hF
    by_cases h110 : x2 = 15
    · refine lv_tableIn (tgt := 597) hx hb dX12_fits_86 (by rw [h110]; decide) (by rw [h110]; decide) (by rw [h110]; rfl) (by decide) ?_
      clear hF
      have hF := gh110 h110
      clear gh110
      refine lv_aload_n hx hb dX12_fits_597 rfl (lv_at hl 0 rfl) ?_
      refine lv_iload_n hx hb dX12_fits_598 rfl (lv_at hl 1 rfl) ?_
      refine sm_vi (As := [.int x1]) (rest := []) hP hK hD hE hS hA ⟨hx, hb, hml, hown, hts⟩ hl.1 (c_X12_pop l D H.size t0 σ α x1 _ hF) (cwV 1 hts wg_X12_fits_X12_pop_61 rfl rfl rfl (by decide +kernel) ⟨Nat.le_of_ble_eq_true rfl, Nat.le_of_ble_eq_true rfl⟩) (va_recv hK hP (ci := 12) (q0 := 1) rfl (sm_gX12 σ α)) rfl rfl (Nat.le_of_ble_eq_true rfl) dX12_fits_599 ⟨Nat.zero_le _, Nat.zero_le _⟩ (fun r112 σ111 H locs hF hP hS => ?_)
      refine lv_istore (lv' := [(6, .int r112), (0, .ref (α.1 1)), (1, .int x1), (2, .int x2), (3, .int x3), (4, .int x4)]) hx hb dX12_fits_602 hl (by decide) rfl (fun ls hl => ?_)
      refine lv_iload hx hb dX12_fits_604 (lv_at hl 0 rfl) ?_
      refine lv_bipush (v := 97) hx hb dX12_fits_606 (by decide) ?_
      refine lv_icmp_eq (tgt := 619) hx hb dX12_fits_608 (by decide) (fun h113 => ?_) (fun h113 => ?_)
      · replace hF := hF.1 h113
        exact B619 σ111 hF H locs ls hP hS (lv_sub hl [] rfl)
      · replace hF := hF.2 h113
        refine lv_iload hx hb dX12_fits_611 (lv_at hl 0 rfl) ?_
        refine sm_si (As := [.int r112]) (rest := []) hP hK hD hE hS hA ⟨hx, hb, hml, hown, hts⟩ hl.1 (c_X12_isSome l D H.size t0 σ111 α r112 _ hF) (va_cwS 1 hts wg_X12_fits_X12_isSome_7 rfl rfl rfl (by decide +kernel) ⟨Nat.le_of_ble_eq_true rfl, Nat.le_of_ble_eq_true rfl⟩) rfl rfl (Nat.le_of_ble_eq_true rfl) dX12_fits_613 ⟨Nat.zero_le _, Nat.zero_le _⟩ (fun r115 σ114 H locs hF hP hS => ?_)
        refine lv_if_eq (tgt := 623) hx hb dX12_fits_616 (by decide) (fun h116 => ?_) (fun h116 => ?_)
        · replace hF := hF.1 h116
          refine lv_iconst (v := 0) hx hb dX12_fits_623 (by decide) ?_
          exact B624 σ114 0 hF H locs ls hP hS (lv_sub hl [] rfl)
        · replace hF := hF.2 h116
          exact B619 σ114 hF H locs ls hP hS (lv_sub hl [] rfl)
    clear gh110
    obtain ⟨gh117, hF⟩ := hF
    by_cases h117 : x2 = 16
    · refine lv_tableIn (tgt := 597) hx hb dX12_fits_86 (by rw [h117]; decide) (by rw [h117]; decide) (by rw [h117]; rfl) (by decide) ?_
      clear hF
      have hF := gh117 h117
      clear gh117
      refine lv_aload_n hx hb dX12_fits_597 rfl (lv_at hl 0 rfl) ?_
      refine lv_iload_n hx hb dX12_fits_598 rfl (lv_at hl 1 rfl) ?_
      refine sm_vi (As := [.int x1]) (rest := []) hP hK hD hE hS hA ⟨hx, hb, hml, hown, hts⟩ hl.1 (c_X12_pop l D H.size t0 σ α x1 _ hF) (cwV 1 hts wg_X12_fits_X12_pop_61 rfl rfl rfl (by decide +kernel) ⟨Nat.le_of_ble_eq_true rfl, Nat.le_of_ble_eq_true rfl⟩) (va_recv hK hP (ci := 12) (q0 := 1) rfl (sm_gX12 σ α)) rfl rfl (Nat.le_of_ble_eq_true rfl) dX12_fits_599 ⟨Nat.zero_le _, Nat.zero_le _⟩ (fun r119 σ118 H locs hF hP hS => ?_)
      refine lv_istore (lv' := [(6, .int r119), (0, .ref (α.1 1)), (1, .int x1), (2, .int x2), (3, .int x3), (4, .int x4)]) hx hb dX12_fits_602 hl (by decide) rfl (fun ls hl => ?_)
      refine lv_iload hx hb dX12_fits_604 (lv_at hl 0 rfl) ?_
      refine lv_bipush (v := 97) hx hb dX12_fits_606 (by decide) ?_
      refine lv_icmp_eq (tgt := 619) hx hb dX12_fits_608 (by decide) (fun h120 => ?_) (fun h120 => ?_)
      · replace hF := hF.1 h120
        exact B619 σ118 hF H locs ls hP hS (lv_sub hl [] rfl)
      · replace hF := hF.2 h120
        refine lv_iload hx hb dX12_fits_611 (lv_at hl 0 rfl) ?_
        refine sm_si (As := [.int r119]) (rest := []) hP hK hD hE hS hA ⟨hx, hb, hml, hown, hts⟩ hl.1 (c_X12_isSome l D H.size t0 σ118 α r119 _ hF) (va_cwS 1 hts wg_X12_fits_X12_isSome_7 rfl rfl rfl (by decide +kernel) ⟨Nat.le_of_ble_eq_true rfl, Nat.le_of_ble_eq_true rfl⟩) rfl rfl (Nat.le_of_ble_eq_true rfl) dX12_fits_613 ⟨Nat.zero_le _, Nat.zero_le _⟩ (fun r122 σ121 H locs hF hP hS => ?_)
        refine lv_if_eq (tgt := 623) hx hb dX12_fits_616 (by decide) (fun h123 => ?_) (fun h123 => ?_)
        · replace hF := hF.1 h123
          refine lv_iconst (v := 0) hx hb dX12_fits_623 (by decide) ?_
          exact B624 σ121 0 hF H locs ls hP hS (lv_sub hl [] rfl)
        · replace hF := hF.2 h123
          exact B619 σ121 hF H locs ls hP hS (lv_sub hl [] rfl)
    clear gh117
    obtain ⟨gh124, hF⟩ := hF
    by_cases h124 : x2 = 17
    · refine lv_tableIn (tgt := 597) hx hb dX12_fits_86 (by rw [h124]; decide) (by rw [h124]; decide) (by rw [h124]; rfl) (by decide) ?_
      clear hF
      have hF := gh124 h124
      clear gh124
      refine lv_aload_n hx hb dX12_fits_597 rfl (lv_at hl 0 rfl) ?_
      refine lv_iload_n hx hb dX12_fits_598 rfl (lv_at hl 1 rfl) ?_
      refine sm_vi (As := [.int x1]) (rest := []) hP hK hD hE hS hA ⟨hx, hb, hml, hown, hts⟩ hl.1 (c_X12_pop l D H.size t0 σ α x1 _ hF) (cwV 1 hts wg_X12_fits_X12_pop_61 rfl rfl rfl (by decide +kernel) ⟨Nat.le_of_ble_eq_true rfl, Nat.le_of_ble_eq_true rfl⟩) (va_recv hK hP (ci := 12) (q0 := 1) rfl (sm_gX12 σ α)) rfl rfl (Nat.le_of_ble_eq_true rfl) dX12_fits_599 ⟨Nat.zero_le _, Nat.zero_le _⟩ (fun r126 σ125 H locs hF hP hS => ?_)
      refine lv_istore (lv' := [(6, .int r126), (0, .ref (α.1 1)), (1, .int x1), (2, .int x2), (3, .int x3), (4, .int x4)]) hx hb dX12_fits_602 hl (by decide) rfl (fun ls hl => ?_)
      refine lv_iload hx hb dX12_fits_604 (lv_at hl 0 rfl) ?_
      refine lv_bipush (v := 97) hx hb dX12_fits_606 (by decide) ?_
      refine lv_icmp_eq (tgt := 619) hx hb dX12_fits_608 (by decide) (fun h127 => ?_) (fun h127 => ?_)
      · replace hF := hF.1 h127
        exact B619 σ125 hF H locs ls hP hS (lv_sub hl [] rfl)
      · replace hF := hF.2 h127
        refine lv_iload hx hb dX12_fits_611 (lv_at hl 0 rfl) ?_
        refine sm_si (As := [.int r126]) (rest := []) hP hK hD hE hS hA ⟨hx, hb, hml, hown, hts⟩ hl.1 (c_X12_isSome l D H.size t0 σ125 α r126 _ hF) (va_cwS 1 hts wg_X12_fits_X12_isSome_7 rfl rfl rfl (by decide +kernel) ⟨Nat.le_of_ble_eq_true rfl, Nat.le_of_ble_eq_true rfl⟩) rfl rfl (Nat.le_of_ble_eq_true rfl) dX12_fits_613 ⟨Nat.zero_le _, Nat.zero_le _⟩ (fun r129 σ128 H locs hF hP hS => ?_)
        refine lv_if_eq (tgt := 623) hx hb dX12_fits_616 (by decide) (fun h130 => ?_) (fun h130 => ?_)
        · replace hF := hF.1 h130
          refine lv_iconst (v := 0) hx hb dX12_fits_623 (by decide) ?_
          exact B624 σ128 0 hF H locs ls hP hS (lv_sub hl [] rfl)
        · replace hF := hF.2 h130
          exact B619 σ128 hF H locs ls hP hS (lv_sub hl [] rfl)
    clear gh124
    obtain ⟨gh131, hF⟩ := hF
    by_cases h131 : x2 = 18
    · refine lv_tableIn (tgt := 597) hx hb dX12_fits_86 (by rw [h131]; decide) (by rw [h131]; decide) (by rw [h131]; rfl) (by decide) ?_
      clear hF
      have hF := gh131 h131
      clear gh131
      refine lv_aload_n hx hb dX12_fits_597 rfl (lv_at hl 0 rfl) ?_
      refine lv_iload_n hx hb dX12_fits_598 rfl (lv_at hl 1 rfl) ?_
      refine sm_vi (As := [.int x1]) (rest := []) hP hK hD hE hS hA ⟨hx, hb, hml, hown, hts⟩ hl.1 (c_X12_pop l D H.size t0 σ α x1 _ hF) (cwV 1 hts wg_X12_fits_X12_pop_61 rfl rfl rfl (by decide +kernel) ⟨Nat.le_of_ble_eq_true rfl, Nat.le_of_ble_eq_true rfl⟩) (va_recv hK hP (ci := 12) (q0 := 1) rfl (sm_gX12 σ α)) rfl rfl (Nat.le_of_ble_eq_true rfl) dX12_fits_599 ⟨Nat.zero_le _, Nat.zero_le _⟩ (fun r133 σ132 H locs hF hP hS => ?_)
      refine lv_istore (lv' := [(6, .int r133), (0, .ref (α.1 1)), (1, .int x1), (2, .int x2), (3, .int x3), (4, .int x4)]) hx hb dX12_fits_602 hl (by decide) rfl (fun ls hl => ?_)
      refine lv_iload hx hb dX12_fits_604 (lv_at hl 0 rfl) ?_
      refine lv_bipush (v := 97) hx hb dX12_fits_606 (by decide) ?_
      refine lv_icmp_eq (tgt := 619) hx hb dX12_fits_608 (by decide) (fun h134 => ?_) (fun h134 => ?_)
      · replace hF := hF.1 h134
        exact B619 σ132 hF H locs ls hP hS (lv_sub hl [] rfl)
      · replace hF := hF.2 h134
        refine lv_iload hx hb dX12_fits_611 (lv_at hl 0 rfl) ?_
        refine sm_si (As := [.int r133]) (rest := []) hP hK hD hE hS hA ⟨hx, hb, hml, hown, hts⟩ hl.1 (c_X12_isSome l D H.size t0 σ132 α r133 _ hF) (va_cwS 1 hts wg_X12_fits_X12_isSome_7 rfl rfl rfl (by decide +kernel) ⟨Nat.le_of_ble_eq_true rfl, Nat.le_of_ble_eq_true rfl⟩) rfl rfl (Nat.le_of_ble_eq_true rfl) dX12_fits_613 ⟨Nat.zero_le _, Nat.zero_le _⟩ (fun r136 σ135 H locs hF hP hS => ?_)
        refine lv_if_eq (tgt := 623) hx hb dX12_fits_616 (by decide) (fun h137 => ?_) (fun h137 => ?_)
        · replace hF := hF.1 h137
          refine lv_iconst (v := 0) hx hb dX12_fits_623 (by decide) ?_
          exact B624 σ135 0 hF H locs ls hP hS (lv_sub hl [] rfl)
        · replace hF := hF.2 h137
          exact B619 σ135 hF H locs ls hP hS (lv_sub hl [] rfl)
    clear gh131
    obtain ⟨gh138, hF⟩ := hF
    by_cases h138 : x2 = 19
    · refine lv_tableIn (tgt := 283) hx hb dX12_fits_86 (by rw [h138]; decide) (by rw [h138]; decide) (by rw [h138]; rfl) (by decide) ?_
      clear hF
      have hF := gh138 h138
      clear gh138
      refine lv_aload_n hx hb dX12_fits_283 rfl (lv_at hl 0 rfl) ?_
      refine lv_iload_n hx hb dX12_fits_284 rfl (lv_at hl 1 rfl) ?_
      refine lv_iconst (v := 1) hx hb dX12_fits_285 (by decide) ?_
      refine sm_vi (As := [.int x1, .int 1]) (rest := []) hP hK hD hE hS hA ⟨hx, hb, hml, hown, hts⟩ hl.1 (c_X12_popInts l D H.size t0 σ α x1 1 _ hF) (cwV 2 hts wg_X12_fits_X12_popInts_83 rfl rfl rfl (by decide +kernel) ⟨Nat.le_of_ble_eq_true rfl, Nat.le_of_ble_eq_true rfl⟩) (va_recv hK hP (ci := 12) (q0 := 1) rfl (sm_gX12 σ α)) rfl rfl (Nat.le_of_ble_eq_true rfl) dX12_fits_286 ⟨Nat.zero_le _, Nat.zero_le _⟩ (fun r140 σ139 H locs hF hP hS => ?_)
      obtain ⟨h141, hF⟩ := hF
      exact W.zret (v := r140) hx hb hr h141.1 (fun t ht hW => ⟨⟨r140, σ139, rfl, hF, (by unfold sm_B; rw [ht]; exact hP)⟩, hS.F ht⟩) hS.2.2 dX12_fits_289
    clear gh138
    obtain ⟨gh142, hF⟩ := hF
    by_cases h142 : x2 = 20
    · refine lv_tableIn (tgt := 290) hx hb dX12_fits_86 (by rw [h142]; decide) (by rw [h142]; decide) (by rw [h142]; rfl) (by decide) ?_
      clear hF
      have hF := gh142 h142
      clear gh142
      refine lv_aload_n hx hb dX12_fits_290 rfl (lv_at hl 0 rfl) ?_
      refine lv_iload_n hx hb dX12_fits_291 rfl (lv_at hl 1 rfl) ?_
      refine lv_iconst (v := 2) hx hb dX12_fits_292 (by decide) ?_
      refine sm_vi (As := [.int x1, .int 2]) (rest := []) hP hK hD hE hS hA ⟨hx, hb, hml, hown, hts⟩ hl.1 (c_X12_popInts l D H.size t0 σ α x1 2 _ hF) (cwV 2 hts wg_X12_fits_X12_popInts_83 rfl rfl rfl (by decide +kernel) ⟨Nat.le_of_ble_eq_true rfl, Nat.le_of_ble_eq_true rfl⟩) (va_recv hK hP (ci := 12) (q0 := 1) rfl (sm_gX12 σ α)) rfl rfl (Nat.le_of_ble_eq_true rfl) dX12_fits_293 ⟨Nat.zero_le _, Nat.zero_le _⟩ (fun r144 σ143 H locs hF hP hS => ?_)
      obtain ⟨h145, hF⟩ := hF
      exact W.zret (v := r144) hx hb hr h145.1 (fun t ht hW => ⟨⟨r144, σ143, rfl, hF, (by unfold sm_B; rw [ht]; exact hP)⟩, hS.F ht⟩) hS.2.2 dX12_fits_296
    clear gh142
    obtain ⟨gh146, hF⟩ := hF
    by_cases h146 : x2 = 21
    · refine lv_tableIn (tgt := 297) hx hb dX12_fits_86 (by rw [h146]; decide) (by rw [h146]; decide) (by rw [h146]; rfl) (by decide) ?_
      clear hF
      have hF := gh146 h146
      clear gh146
      refine lv_aload_n hx hb dX12_fits_297 rfl (lv_at hl 0 rfl) ?_
      refine lv_iload_n hx hb dX12_fits_298 rfl (lv_at hl 1 rfl) ?_
      refine sm_vi (As := [.int x1]) (rest := []) hP hK hD hE hS hA ⟨hx, hb, hml, hown, hts⟩ hl.1 (c_X12_popReference l D H.size t0 σ α x1 _ hF) (cwV 1 hts wg_X12_fits_X12_popReference_96 rfl rfl rfl (by decide +kernel) ⟨Nat.le_of_ble_eq_true rfl, Nat.le_of_ble_eq_true rfl⟩) (va_recv hK hP (ci := 12) (q0 := 1) rfl (sm_gX12 σ α)) rfl rfl (Nat.le_of_ble_eq_true rfl) dX12_fits_299 ⟨Nat.zero_le _, Nat.zero_le _⟩ (fun r148 σ147 H locs hF hP hS => ?_)
      obtain ⟨h149, hF⟩ := hF
      exact W.zret (v := r148) hx hb hr h149.1 (fun t ht hW => ⟨⟨r148, σ147, rfl, hF, (by unfold sm_B; rw [ht]; exact hP)⟩, hS.F ht⟩) hS.2.2 dX12_fits_302
    clear gh146
    obtain ⟨gh150, hF⟩ := hF
    by_cases h150 : x2 = 22
    · refine lv_tableIn (tgt := 297) hx hb dX12_fits_86 (by rw [h150]; decide) (by rw [h150]; decide) (by rw [h150]; rfl) (by decide) ?_
      clear hF
      have hF := gh150 h150
      clear gh150
      refine lv_aload_n hx hb dX12_fits_297 rfl (lv_at hl 0 rfl) ?_
      refine lv_iload_n hx hb dX12_fits_298 rfl (lv_at hl 1 rfl) ?_
      refine sm_vi (As := [.int x1]) (rest := []) hP hK hD hE hS hA ⟨hx, hb, hml, hown, hts⟩ hl.1 (c_X12_popReference l D H.size t0 σ α x1 _ hF) (cwV 1 hts wg_X12_fits_X12_popReference_96 rfl rfl rfl (by decide +kernel) ⟨Nat.le_of_ble_eq_true rfl, Nat.le_of_ble_eq_true rfl⟩) (va_recv hK hP (ci := 12) (q0 := 1) rfl (sm_gX12 σ α)) rfl rfl (Nat.le_of_ble_eq_true rfl) dX12_fits_299 ⟨Nat.zero_le _, Nat.zero_le _⟩ (fun r152 σ151 H locs hF hP hS => ?_)
      obtain ⟨h153, hF⟩ := hF
      exact W.zret (v := r152) hx hb hr h153.1 (fun t ht hW => ⟨⟨r152, σ151, rfl, hF, (by unfold sm_B; rw [ht]; exact hP)⟩, hS.F ht⟩) hS.2.2 dX12_fits_302
    clear gh150
    obtain ⟨gh154, hF⟩ := hF
    by_cases h154 : x2 = 23
    · refine lv_tableIn (tgt := 303) hx hb dX12_fits_86 (by rw [h154]; decide) (by rw [h154]; decide) (by rw [h154]; rfl) (by decide) ?_
      clear hF
      have hF := gh154 h154
      clear gh154
      refine lv_aload_n hx hb dX12_fits_303 rfl (lv_at hl 0 rfl) ?_
      refine lv_iload_n hx hb dX12_fits_304 rfl (lv_at hl 1 rfl) ?_
      refine sm_vi (As := [.int x1]) (rest := []) hP hK hD hE hS hA ⟨hx, hb, hml, hown, hts⟩ hl.1 (c_X12_popReference l D H.size t0 σ α x1 _ hF) (cwV 1 hts wg_X12_fits_X12_popReference_96 rfl rfl rfl (by decide +kernel) ⟨Nat.le_of_ble_eq_true rfl, Nat.le_of_ble_eq_true rfl⟩) (va_recv hK hP (ci := 12) (q0 := 1) rfl (sm_gX12 σ α)) rfl rfl (Nat.le_of_ble_eq_true rfl) dX12_fits_305 ⟨Nat.zero_le _, Nat.zero_le _⟩ (fun r156 σ155 H locs hF hP hS => ?_)
      refine lv_if_eq (tgt := 323) hx hb dX12_fits_308 (by decide) (fun h157 => ?_) (fun h157 => ?_)
      · replace hF := hF.1 h157
        exact B323 σ155 hF H locs ls hP hS (lv_sub hl [] rfl)
      · replace hF := hF.2 h157
        refine lv_aload_n hx hb dX12_fits_311 rfl (lv_at hl 0 rfl) ?_
        refine lv_iload_n hx hb dX12_fits_312 rfl (lv_at hl 1 rfl) ?_
        refine sm_vi (As := [.int x1]) (rest := []) hP hK hD hE hS hA ⟨hx, hb, hml, hown, hts⟩ hl.1 (c_X12_popReference l D H.size t0 σ155 α x1 _ hF) (cwV 1 hts wg_X12_fits_X12_popReference_96 rfl rfl rfl (by decide +kernel) ⟨Nat.le_of_ble_eq_true rfl, Nat.le_of_ble_eq_true rfl⟩) (va_recv hK hP (ci := 12) (q0 := 1) rfl (sm_gX12 σ155 α)) rfl rfl (Nat.le_of_ble_eq_true rfl) dX12_fits_313 ⟨Nat.zero_le _, Nat.zero_le _⟩ (fun r159 σ158 H locs hF hP hS => ?_)
        refine lv_if_eq (tgt := 323) hx hb dX12_fits_316 (by decide) (fun h160 => ?_) (fun h160 => ?_)
        · replace hF := hF.1 h160
          exact B323 σ158 hF H locs ls hP hS (lv_sub hl [] rfl)
        · replace hF := hF.2 h160
          refine lv_iconst (v := 1) hx hb dX12_fits_319 (by decide) ?_
          refine lv_goto (tgt := 324) hx hb dX12_fits_320 (by decide) ?_
          exact B324 σ158 1 hF H locs ls hP hS (lv_sub hl [] rfl)
    clear gh154
    obtain ⟨gh161, hF⟩ := hF
    by_cases h161 : x2 = 24
    · refine lv_tableIn (tgt := 303) hx hb dX12_fits_86 (by rw [h161]; decide) (by rw [h161]; decide) (by rw [h161]; rfl) (by decide) ?_
      clear hF
      have hF := gh161 h161
      clear gh161
      refine lv_aload_n hx hb dX12_fits_303 rfl (lv_at hl 0 rfl) ?_
      refine lv_iload_n hx hb dX12_fits_304 rfl (lv_at hl 1 rfl) ?_
      refine sm_vi (As := [.int x1]) (rest := []) hP hK hD hE hS hA ⟨hx, hb, hml, hown, hts⟩ hl.1 (c_X12_popReference l D H.size t0 σ α x1 _ hF) (cwV 1 hts wg_X12_fits_X12_popReference_96 rfl rfl rfl (by decide +kernel) ⟨Nat.le_of_ble_eq_true rfl, Nat.le_of_ble_eq_true rfl⟩) (va_recv hK hP (ci := 12) (q0 := 1) rfl (sm_gX12 σ α)) rfl rfl (Nat.le_of_ble_eq_true rfl) dX12_fits_305 ⟨Nat.zero_le _, Nat.zero_le _⟩ (fun r163 σ162 H locs hF hP hS => ?_)
      refine lv_if_eq (tgt := 323) hx hb dX12_fits_308 (by decide) (fun h164 => ?_) (fun h164 => ?_)
      · replace hF := hF.1 h164
        exact B323 σ162 hF H locs ls hP hS (lv_sub hl [] rfl)
      · replace hF := hF.2 h164
        refine lv_aload_n hx hb dX12_fits_311 rfl (lv_at hl 0 rfl) ?_
        refine lv_iload_n hx hb dX12_fits_312 rfl (lv_at hl 1 rfl) ?_
        refine sm_vi (As := [.int x1]) (rest := []) hP hK hD hE hS hA ⟨hx, hb, hml, hown, hts⟩ hl.1 (c_X12_popReference l D H.size t0 σ162 α x1 _ hF) (cwV 1 hts wg_X12_fits_X12_popReference_96 rfl rfl rfl (by decide +kernel) ⟨Nat.le_of_ble_eq_true rfl, Nat.le_of_ble_eq_true rfl⟩) (va_recv hK hP (ci := 12) (q0 := 1) rfl (sm_gX12 σ162 α)) rfl rfl (Nat.le_of_ble_eq_true rfl) dX12_fits_313 ⟨Nat.zero_le _, Nat.zero_le _⟩ (fun r166 σ165 H locs hF hP hS => ?_)
        refine lv_if_eq (tgt := 323) hx hb dX12_fits_316 (by decide) (fun h167 => ?_) (fun h167 => ?_)
        · replace hF := hF.1 h167
          exact B323 σ165 hF H locs ls hP hS (lv_sub hl [] rfl)
        · replace hF := hF.2 h167
          refine lv_iconst (v := 1) hx hb dX12_fits_319 (by decide) ?_
          refine lv_goto (tgt := 324) hx hb dX12_fits_320 (by decide) ?_
          exact B324 σ165 1 hF H locs ls hP hS (lv_sub hl [] rfl)
    clear gh161
    obtain ⟨gh168, hF⟩ := hF
    by_cases h168 : x2 = 25
    · refine lv_tableIn (tgt := 325) hx hb dX12_fits_86 (by rw [h168]; decide) (by rw [h168]; decide) (by rw [h168]; rfl) (by decide) ?_
      clear hF
      have hF := gh168 h168
      clear gh168
      refine lv_iconst (v := 1) hx hb dX12_fits_325 (by decide) ?_
      exact W.zret (v := 1) hx hb hr sm_z1.1 (fun t ht hW => ⟨⟨1, σ, rfl, hF, (by unfold sm_B; rw [ht]; exact hP)⟩, hS.F ht⟩) hS.2.2 dX12_fits_326
    clear gh168
    obtain ⟨gh169, hF⟩ := hF
    by_cases h169 : x2 = 26
    · refine lv_tableIn (tgt := 327) hx hb dX12_fits_86 (by rw [h169]; decide) (by rw [h169]; decide) (by rw [h169]; rfl) (by decide) ?_
      clear hF
      have hF := gh169 h169
      clear gh169
      refine lv_aload_n hx hb dX12_fits_327 rfl (lv_at hl 0 rfl) ?_
      refine lv_iload_n hx hb dX12_fits_328 rfl (lv_at hl 1 rfl) ?_
      refine lv_iconst (v := 1) hx hb dX12_fits_329 (by decide) ?_
      refine lv_iload_n hx hb dX12_fits_330 rfl (lv_at hl 3 rfl) ?_
      refine lv_iadd hx hb dX12_fits_331 ?_
      refine sm_vi (As := [.int x1, .int (1 + x3)]) (rest := []) hP hK hD hE hS hA ⟨hx, hb, hml, hown, hts⟩ hl.1 (c_X12_push l D H.size t0 σ α x1 (1 + x3) _ hF) (cwV 2 hts wg_X12_fits_X12_push_80 rfl rfl rfl (by decide +kernel) ⟨Nat.le_of_ble_eq_true rfl, Nat.le_of_ble_eq_true rfl⟩) (va_recv hK hP (ci := 12) (q0 := 1) rfl (sm_gX12 σ α)) rfl rfl (Nat.le_of_ble_eq_true rfl) dX12_fits_332 ⟨Nat.zero_le _, Nat.zero_le _⟩ (fun r171 σ170 H locs hF hP hS => ?_)
      obtain ⟨h172, hF⟩ := hF
      exact W.zret (v := r171) hx hb hr h172.1 (fun t ht hW => ⟨⟨r171, σ170, rfl, hF, (by unfold sm_B; rw [ht]; exact hP)⟩, hS.F ht⟩) hS.2.2 dX12_fits_335
    clear gh169
    obtain ⟨gh173, hF⟩ := hF
    by_cases h173 : x2 = 27
    · refine lv_tableIn (tgt := 336) hx hb dX12_fits_86 (by rw [h173]; decide) (by rw [h173]; decide) (by rw [h173]; rfl) (by decide) ?_
      clear hF
      have hF := gh173 h173
      clear gh173
      refine lv_aload_n hx hb dX12_fits_336 rfl (lv_at hl 0 rfl) ?_
      refine lv_iload_n hx hb dX12_fits_337 rfl (lv_at hl 1 rfl) ?_
      refine lv_iconst (v := 1) hx hb dX12_fits_338 (by decide) ?_
      refine lv_iload_n hx hb dX12_fits_339 rfl (lv_at hl 3 rfl) ?_
      refine lv_iadd hx hb dX12_fits_340 ?_
      refine sm_vi (As := [.int x1, .int (1 + x3)]) (rest := []) hP hK hD hE hS hA ⟨hx, hb, hml, hown, hts⟩ hl.1 (c_X12_popInto l D H.size t0 σ α x1 (1 + x3) _ hF) (cwV 2 hts wg_X12_fits_X12_popInto_74 rfl rfl rfl (by decide +kernel) ⟨Nat.le_of_ble_eq_true rfl, Nat.le_of_ble_eq_true rfl⟩) (va_recv hK hP (ci := 12) (q0 := 1) rfl (sm_gX12 σ α)) rfl rfl (Nat.le_of_ble_eq_true rfl) dX12_fits_341 ⟨Nat.zero_le _, Nat.zero_le _⟩ (fun r175 σ174 H locs hF hP hS => ?_)
      refine lv_if_eq (tgt := 374) hx hb dX12_fits_344 (by decide) (fun h176 => ?_) (fun h176 => ?_)
      · replace hF := hF.1 h176
        exact B374 σ174 hF H locs ls hP hS (lv_sub hl [] rfl)
      · replace hF := hF.2 h176
        refine lv_aload_n hx hb dX12_fits_347 rfl (lv_at hl 0 rfl) ?_
        refine lv_iload_n hx hb dX12_fits_348 rfl (lv_at hl 1 rfl) ?_
        refine lv_aload_n hx hb dX12_fits_349 rfl (lv_at hl 0 rfl) ?_
        refine va_get (D := D) (ci := 12) (v := .ref (α.1 0)) (C := RX12) (T := TX12) (N := 42) hx hb hts in_X12 hown hK hP 1 (sm_gX12 σ174 α) rfl 0 (by decide) k_0 (fun _ h9 => h9) rfl dX12_fits_350 ?_
        refine va_getN (D := D) (ci := 11) (v := .ref (α.1 7)) (C := RX11) (T := TX11) (N := 28) hx hb hts in_X11 hown hK hP 0 (sm_gX11 σ174 α) rfl 11 (by decide) (va_Nw.use rfl (hE.1 (.fieldLinkNest "SteadyMachineModel" 99 "SteadyMachineModel$Image" "fieldTypes" "[I" "SteadyMachineModel") (by decide +kernel))) (fun _ h9 => h9) rfl dX12_fits_353 ?_
        refine lv_bipush (v := 15) hx hb dX12_fits_356 (by decide) ?_
        refine lv_iload_n hx hb dX12_fits_358 rfl (lv_at hl 3 rfl) ?_
        refine lv_imul hx hb dX12_fits_359 ?_
        refine lv_iload hx hb dX12_fits_360 (lv_at hl 4 rfl) ?_
        refine lv_iadd hx hb dX12_fits_362 ?_
        obtain ⟨h177, hF⟩ := hF
        refine va_iald (n := (σ174.2.2.1 7)) (f := (σ174.2.2.2.1 7)) hx hb hK hP 7 5 (sm_aM7 σ174 α) (sm_yM7 α) h177 dX12_fits_363 ?_
        refine sm_vi (As := [.int x1, .int ((σ174.2.2.2.1 7) ((15 * x3) + x4).toNatClampNeg)]) (rest := []) hP hK hD hE hS hA ⟨hx, hb, hml, hown, hts⟩ hl.1 (c_X12_push l D H.size t0 σ174 α x1 ((σ174.2.2.2.1 7) ((15 * x3) + x4).toNatClampNeg) _ hF) (cwV 2 hts wg_X12_fits_X12_push_80 rfl rfl rfl (by decide +kernel) ⟨Nat.le_of_ble_eq_true rfl, Nat.le_of_ble_eq_true rfl⟩) (va_recv hK hP (ci := 12) (q0 := 1) rfl (sm_gX12 σ174 α)) rfl rfl (Nat.le_of_ble_eq_true rfl) dX12_fits_364 ⟨Nat.zero_le _, Nat.zero_le _⟩ (fun r179 σ178 H locs hF hP hS => ?_)
        refine lv_if_eq (tgt := 374) hx hb dX12_fits_367 (by decide) (fun h180 => ?_) (fun h180 => ?_)
        · replace hF := hF.1 h180
          exact B374 σ178 hF H locs ls hP hS (lv_sub hl [] rfl)
        · replace hF := hF.2 h180
          refine lv_iconst (v := 1) hx hb dX12_fits_370 (by decide) ?_
          refine lv_goto (tgt := 375) hx hb dX12_fits_371 (by decide) ?_
          exact B375 σ178 1 hF H locs ls hP hS (lv_sub hl [] rfl)
    clear gh173
    obtain ⟨gh181, hF⟩ := hF
    by_cases h181 : x2 = 28
    · refine lv_tableIn (tgt := 376) hx hb dX12_fits_86 (by rw [h181]; decide) (by rw [h181]; decide) (by rw [h181]; rfl) (by decide) ?_
      clear hF
      have hF := gh181 h181
      clear gh181
      refine lv_aload_n hx hb dX12_fits_376 rfl (lv_at hl 0 rfl) ?_
      refine lv_iload_n hx hb dX12_fits_377 rfl (lv_at hl 1 rfl) ?_
      refine lv_aload_n hx hb dX12_fits_378 rfl (lv_at hl 0 rfl) ?_
      refine va_get (D := D) (ci := 12) (v := .ref (α.1 0)) (C := RX12) (T := TX12) (N := 42) hx hb hts in_X12 hown hK hP 1 (sm_gX12 σ α) rfl 0 (by decide) k_0 (fun _ h9 => h9) rfl dX12_fits_379 ?_
      refine va_getN (D := D) (ci := 11) (v := .ref (α.1 7)) (C := RX11) (T := TX11) (N := 28) hx hb hts in_X11 hown hK hP 0 (sm_gX11 σ α) rfl 11 (by decide) (va_Nw.use rfl (hE.1 (.fieldLinkNest "SteadyMachineModel" 99 "SteadyMachineModel$Image" "fieldTypes" "[I" "SteadyMachineModel") (by decide +kernel))) (fun _ h9 => h9) rfl dX12_fits_382 ?_
      refine lv_bipush (v := 15) hx hb dX12_fits_385 (by decide) ?_
      refine lv_iload_n hx hb dX12_fits_387 rfl (lv_at hl 3 rfl) ?_
      refine lv_imul hx hb dX12_fits_388 ?_
      refine lv_iload hx hb dX12_fits_389 (lv_at hl 4 rfl) ?_
      refine lv_iadd hx hb dX12_fits_391 ?_
      obtain ⟨h182, hF⟩ := hF
      refine va_iald (n := (σ.2.2.1 7)) (f := (σ.2.2.2.1 7)) hx hb hK hP 7 5 (sm_aM7 σ α) (sm_yM7 α) h182 dX12_fits_392 ?_
      refine sm_vi (As := [.int x1, .int ((σ.2.2.2.1 7) ((15 * x3) + x4).toNatClampNeg)]) (rest := []) hP hK hD hE hS hA ⟨hx, hb, hml, hown, hts⟩ hl.1 (c_X12_popInto l D H.size t0 σ α x1 ((σ.2.2.2.1 7) ((15 * x3) + x4).toNatClampNeg) _ hF) (cwV 2 hts wg_X12_fits_X12_popInto_74 rfl rfl rfl (by decide +kernel) ⟨Nat.le_of_ble_eq_true rfl, Nat.le_of_ble_eq_true rfl⟩) (va_recv hK hP (ci := 12) (q0 := 1) rfl (sm_gX12 σ α)) rfl rfl (Nat.le_of_ble_eq_true rfl) dX12_fits_393 ⟨Nat.zero_le _, Nat.zero_le _⟩ (fun r184 σ183 H locs hF hP hS => ?_)
      refine lv_if_eq (tgt := 414) hx hb dX12_fits_396 (by decide) (fun h185 => ?_) (fun h185 => ?_)
      · replace hF := hF.1 h185
        exact B414 σ183 hF H locs ls hP hS (lv_sub hl [] rfl)
      · replace hF := hF.2 h185
        refine lv_aload_n hx hb dX12_fits_399 rfl (lv_at hl 0 rfl) ?_
        refine lv_iload_n hx hb dX12_fits_400 rfl (lv_at hl 1 rfl) ?_
        refine lv_iconst (v := 1) hx hb dX12_fits_401 (by decide) ?_
        refine lv_iload_n hx hb dX12_fits_402 rfl (lv_at hl 3 rfl) ?_
        refine lv_iadd hx hb dX12_fits_403 ?_
        refine sm_vi (As := [.int x1, .int (1 + x3)]) (rest := []) hP hK hD hE hS hA ⟨hx, hb, hml, hown, hts⟩ hl.1 (c_X12_popInto l D H.size t0 σ183 α x1 (1 + x3) _ hF) (cwV 2 hts wg_X12_fits_X12_popInto_74 rfl rfl rfl (by decide +kernel) ⟨Nat.le_of_ble_eq_true rfl, Nat.le_of_ble_eq_true rfl⟩) (va_recv hK hP (ci := 12) (q0 := 1) rfl (sm_gX12 σ183 α)) rfl rfl (Nat.le_of_ble_eq_true rfl) dX12_fits_404 ⟨Nat.zero_le _, Nat.zero_le _⟩ (fun r187 σ186 H locs hF hP hS => ?_)
        refine lv_if_eq (tgt := 414) hx hb dX12_fits_407 (by decide) (fun h188 => ?_) (fun h188 => ?_)
        · replace hF := hF.1 h188
          exact B414 σ186 hF H locs ls hP hS (lv_sub hl [] rfl)
        · replace hF := hF.2 h188
          refine lv_iconst (v := 1) hx hb dX12_fits_410 (by decide) ?_
          refine lv_goto (tgt := 415) hx hb dX12_fits_411 (by decide) ?_
          exact B415 σ186 1 hF H locs ls hP hS (lv_sub hl [] rfl)
    clear gh181
    obtain ⟨gh189, hF⟩ := hF
    by_cases h189 : x2 = 29
    · refine lv_tableIn (tgt := 416) hx hb dX12_fits_86 (by rw [h189]; decide) (by rw [h189]; decide) (by rw [h189]; rfl) (by decide) ?_
      clear hF
      have hF := gh189 h189
      clear gh189
      refine lv_aload_n hx hb dX12_fits_416 rfl (lv_at hl 0 rfl) ?_
      refine lv_iload_n hx hb dX12_fits_417 rfl (lv_at hl 1 rfl) ?_
      refine sm_vi (As := [.int x1]) (rest := []) hP hK hD hE hS hA ⟨hx, hb, hml, hown, hts⟩ hl.1 (c_X12_popReference l D H.size t0 σ α x1 _ hF) (cwV 1 hts wg_X12_fits_X12_popReference_96 rfl rfl rfl (by decide +kernel) ⟨Nat.le_of_ble_eq_true rfl, Nat.le_of_ble_eq_true rfl⟩) (va_recv hK hP (ci := 12) (q0 := 1) rfl (sm_gX12 σ α)) rfl rfl (Nat.le_of_ble_eq_true rfl) dX12_fits_418 ⟨Nat.zero_le _, Nat.zero_le _⟩ (fun r191 σ190 H locs hF hP hS => ?_)
      refine lv_if_eq (tgt := 437) hx hb dX12_fits_421 (by decide) (fun h192 => ?_) (fun h192 => ?_)
      · replace hF := hF.1 h192
        exact B437 σ190 hF H locs ls hP hS (lv_sub hl [] rfl)
      · replace hF := hF.2 h192
        refine lv_aload_n hx hb dX12_fits_424 rfl (lv_at hl 0 rfl) ?_
        refine lv_iload_n hx hb dX12_fits_425 rfl (lv_at hl 1 rfl) ?_
        refine lv_iconst (v := 0) hx hb dX12_fits_426 (by decide) ?_
        refine sm_vi (As := [.int x1, .int 0]) (rest := []) hP hK hD hE hS hA ⟨hx, hb, hml, hown, hts⟩ hl.1 (c_X12_push l D H.size t0 σ190 α x1 0 _ hF) (cwV 2 hts wg_X12_fits_X12_push_80 rfl rfl rfl (by decide +kernel) ⟨Nat.le_of_ble_eq_true rfl, Nat.le_of_ble_eq_true rfl⟩) (va_recv hK hP (ci := 12) (q0 := 1) rfl (sm_gX12 σ190 α)) rfl rfl (Nat.le_of_ble_eq_true rfl) dX12_fits_427 ⟨Nat.zero_le _, Nat.zero_le _⟩ (fun r194 σ193 H locs hF hP hS => ?_)
        refine lv_if_eq (tgt := 437) hx hb dX12_fits_430 (by decide) (fun h195 => ?_) (fun h195 => ?_)
        · replace hF := hF.1 h195
          exact B437 σ193 hF H locs ls hP hS (lv_sub hl [] rfl)
        · replace hF := hF.2 h195
          refine lv_iconst (v := 1) hx hb dX12_fits_433 (by decide) ?_
          refine lv_goto (tgt := 438) hx hb dX12_fits_434 (by decide) ?_
          exact B438 σ193 1 hF H locs ls hP hS (lv_sub hl [] rfl)
    clear gh189
    obtain ⟨gh196, hF⟩ := hF
    by_cases h196 : x2 = 30
    · refine lv_tableIn (tgt := 439) hx hb dX12_fits_86 (by rw [h196]; decide) (by rw [h196]; decide) (by rw [h196]; rfl) (by decide) ?_
      clear hF
      have hF := gh196 h196
      clear gh196
      refine lv_aload_n hx hb dX12_fits_439 rfl (lv_at hl 0 rfl) ?_
      refine lv_iload_n hx hb dX12_fits_440 rfl (lv_at hl 1 rfl) ?_
      refine sm_vi (As := [.int x1]) (rest := []) hP hK hD hE hS hA ⟨hx, hb, hml, hown, hts⟩ hl.1 (c_X12_popReference l D H.size t0 σ α x1 _ hF) (cwV 1 hts wg_X12_fits_X12_popReference_96 rfl rfl rfl (by decide +kernel) ⟨Nat.le_of_ble_eq_true rfl, Nat.le_of_ble_eq_true rfl⟩) (va_recv hK hP (ci := 12) (q0 := 1) rfl (sm_gX12 σ α)) rfl rfl (Nat.le_of_ble_eq_true rfl) dX12_fits_441 ⟨Nat.zero_le _, Nat.zero_le _⟩ (fun r198 σ197 H locs hF hP hS => ?_)
      refine lv_if_eq (tgt := 462) hx hb dX12_fits_444 (by decide) (fun h199 => ?_) (fun h199 => ?_)
      · replace hF := hF.1 h199
        exact B462 σ197 hF H locs ls hP hS (lv_sub hl [] rfl)
      · replace hF := hF.2 h199
        refine lv_aload_n hx hb dX12_fits_447 rfl (lv_at hl 0 rfl) ?_
        refine lv_iload_n hx hb dX12_fits_448 rfl (lv_at hl 1 rfl) ?_
        refine lv_iconst (v := 1) hx hb dX12_fits_449 (by decide) ?_
        refine lv_iload_n hx hb dX12_fits_450 rfl (lv_at hl 3 rfl) ?_
        refine lv_iadd hx hb dX12_fits_451 ?_
        refine sm_vi (As := [.int x1, .int (1 + x3)]) (rest := []) hP hK hD hE hS hA ⟨hx, hb, hml, hown, hts⟩ hl.1 (c_X12_push l D H.size t0 σ197 α x1 (1 + x3) _ hF) (cwV 2 hts wg_X12_fits_X12_push_80 rfl rfl rfl (by decide +kernel) ⟨Nat.le_of_ble_eq_true rfl, Nat.le_of_ble_eq_true rfl⟩) (va_recv hK hP (ci := 12) (q0 := 1) rfl (sm_gX12 σ197 α)) rfl rfl (Nat.le_of_ble_eq_true rfl) dX12_fits_452 ⟨Nat.zero_le _, Nat.zero_le _⟩ (fun r201 σ200 H locs hF hP hS => ?_)
        refine lv_if_eq (tgt := 462) hx hb dX12_fits_455 (by decide) (fun h202 => ?_) (fun h202 => ?_)
        · replace hF := hF.1 h202
          exact B462 σ200 hF H locs ls hP hS (lv_sub hl [] rfl)
        · replace hF := hF.2 h202
          refine lv_iconst (v := 1) hx hb dX12_fits_458 (by decide) ?_
          refine lv_goto (tgt := 463) hx hb dX12_fits_459 (by decide) ?_
          exact B463 σ200 1 hF H locs ls hP hS (lv_sub hl [] rfl)
    clear gh196
    obtain ⟨gh203, hF⟩ := hF
    by_cases h203 : x2 = 31
    · refine lv_tableIn (tgt := 597) hx hb dX12_fits_86 (by rw [h203]; decide) (by rw [h203]; decide) (by rw [h203]; rfl) (by decide) ?_
      clear hF
      have hF := gh203 h203
      clear gh203
      refine lv_aload_n hx hb dX12_fits_597 rfl (lv_at hl 0 rfl) ?_
      refine lv_iload_n hx hb dX12_fits_598 rfl (lv_at hl 1 rfl) ?_
      refine sm_vi (As := [.int x1]) (rest := []) hP hK hD hE hS hA ⟨hx, hb, hml, hown, hts⟩ hl.1 (c_X12_pop l D H.size t0 σ α x1 _ hF) (cwV 1 hts wg_X12_fits_X12_pop_61 rfl rfl rfl (by decide +kernel) ⟨Nat.le_of_ble_eq_true rfl, Nat.le_of_ble_eq_true rfl⟩) (va_recv hK hP (ci := 12) (q0 := 1) rfl (sm_gX12 σ α)) rfl rfl (Nat.le_of_ble_eq_true rfl) dX12_fits_599 ⟨Nat.zero_le _, Nat.zero_le _⟩ (fun r205 σ204 H locs hF hP hS => ?_)
      refine lv_istore (lv' := [(6, .int r205), (0, .ref (α.1 1)), (1, .int x1), (2, .int x2), (3, .int x3), (4, .int x4)]) hx hb dX12_fits_602 hl (by decide) rfl (fun ls hl => ?_)
      refine lv_iload hx hb dX12_fits_604 (lv_at hl 0 rfl) ?_
      refine lv_bipush (v := 97) hx hb dX12_fits_606 (by decide) ?_
      refine lv_icmp_eq (tgt := 619) hx hb dX12_fits_608 (by decide) (fun h206 => ?_) (fun h206 => ?_)
      · replace hF := hF.1 h206
        exact B619 σ204 hF H locs ls hP hS (lv_sub hl [] rfl)
      · replace hF := hF.2 h206
        refine lv_iload hx hb dX12_fits_611 (lv_at hl 0 rfl) ?_
        refine sm_si (As := [.int r205]) (rest := []) hP hK hD hE hS hA ⟨hx, hb, hml, hown, hts⟩ hl.1 (c_X12_isSome l D H.size t0 σ204 α r205 _ hF) (va_cwS 1 hts wg_X12_fits_X12_isSome_7 rfl rfl rfl (by decide +kernel) ⟨Nat.le_of_ble_eq_true rfl, Nat.le_of_ble_eq_true rfl⟩) rfl rfl (Nat.le_of_ble_eq_true rfl) dX12_fits_613 ⟨Nat.zero_le _, Nat.zero_le _⟩ (fun r208 σ207 H locs hF hP hS => ?_)
        refine lv_if_eq (tgt := 623) hx hb dX12_fits_616 (by decide) (fun h209 => ?_) (fun h209 => ?_)
        · replace hF := hF.1 h209
          refine lv_iconst (v := 0) hx hb dX12_fits_623 (by decide) ?_
          exact B624 σ207 0 hF H locs ls hP hS (lv_sub hl [] rfl)
        · replace hF := hF.2 h209
          exact B619 σ207 hF H locs ls hP hS (lv_sub hl [] rfl)
    clear gh203
    obtain ⟨gh210, hF⟩ := hF
    by_cases h210 : x2 = 32
    · refine lv_tableIn (tgt := 597) hx hb dX12_fits_86 (by rw [h210]; decide) (by rw [h210]; decide) (by rw [h210]; rfl) (by decide) ?_
      clear hF
      have hF := gh210 h210
      clear gh210
      refine lv_aload_n hx hb dX12_fits_597 rfl (lv_at hl 0 rfl) ?_
      refine lv_iload_n hx hb dX12_fits_598 rfl (lv_at hl 1 rfl) ?_
      refine sm_vi (As := [.int x1]) (rest := []) hP hK hD hE hS hA ⟨hx, hb, hml, hown, hts⟩ hl.1 (c_X12_pop l D H.size t0 σ α x1 _ hF) (cwV 1 hts wg_X12_fits_X12_pop_61 rfl rfl rfl (by decide +kernel) ⟨Nat.le_of_ble_eq_true rfl, Nat.le_of_ble_eq_true rfl⟩) (va_recv hK hP (ci := 12) (q0 := 1) rfl (sm_gX12 σ α)) rfl rfl (Nat.le_of_ble_eq_true rfl) dX12_fits_599 ⟨Nat.zero_le _, Nat.zero_le _⟩ (fun r212 σ211 H locs hF hP hS => ?_)
      refine lv_istore (lv' := [(6, .int r212), (0, .ref (α.1 1)), (1, .int x1), (2, .int x2), (3, .int x3), (4, .int x4)]) hx hb dX12_fits_602 hl (by decide) rfl (fun ls hl => ?_)
      refine lv_iload hx hb dX12_fits_604 (lv_at hl 0 rfl) ?_
      refine lv_bipush (v := 97) hx hb dX12_fits_606 (by decide) ?_
      refine lv_icmp_eq (tgt := 619) hx hb dX12_fits_608 (by decide) (fun h213 => ?_) (fun h213 => ?_)
      · replace hF := hF.1 h213
        exact B619 σ211 hF H locs ls hP hS (lv_sub hl [] rfl)
      · replace hF := hF.2 h213
        refine lv_iload hx hb dX12_fits_611 (lv_at hl 0 rfl) ?_
        refine sm_si (As := [.int r212]) (rest := []) hP hK hD hE hS hA ⟨hx, hb, hml, hown, hts⟩ hl.1 (c_X12_isSome l D H.size t0 σ211 α r212 _ hF) (va_cwS 1 hts wg_X12_fits_X12_isSome_7 rfl rfl rfl (by decide +kernel) ⟨Nat.le_of_ble_eq_true rfl, Nat.le_of_ble_eq_true rfl⟩) rfl rfl (Nat.le_of_ble_eq_true rfl) dX12_fits_613 ⟨Nat.zero_le _, Nat.zero_le _⟩ (fun r215 σ214 H locs hF hP hS => ?_)
        refine lv_if_eq (tgt := 623) hx hb dX12_fits_616 (by decide) (fun h216 => ?_) (fun h216 => ?_)
        · replace hF := hF.1 h216
          refine lv_iconst (v := 0) hx hb dX12_fits_623 (by decide) ?_
          exact B624 σ214 0 hF H locs ls hP hS (lv_sub hl [] rfl)
        · replace hF := hF.2 h216
          exact B619 σ214 hF H locs ls hP hS (lv_sub hl [] rfl)
    clear gh210
    obtain ⟨gh217, hF⟩ := hF
    by_cases h217 : x2 = 33
    · refine lv_tableIn (tgt := 597) hx hb dX12_fits_86 (by rw [h217]; decide) (by rw [h217]; decide) (by rw [h217]; rfl) (by decide) ?_
      clear hF
      have hF := gh217 h217
      clear gh217
      refine lv_aload_n hx hb dX12_fits_597 rfl (lv_at hl 0 rfl) ?_
      refine lv_iload_n hx hb dX12_fits_598 rfl (lv_at hl 1 rfl) ?_
      refine sm_vi (As := [.int x1]) (rest := []) hP hK hD hE hS hA ⟨hx, hb, hml, hown, hts⟩ hl.1 (c_X12_pop l D H.size t0 σ α x1 _ hF) (cwV 1 hts wg_X12_fits_X12_pop_61 rfl rfl rfl (by decide +kernel) ⟨Nat.le_of_ble_eq_true rfl, Nat.le_of_ble_eq_true rfl⟩) (va_recv hK hP (ci := 12) (q0 := 1) rfl (sm_gX12 σ α)) rfl rfl (Nat.le_of_ble_eq_true rfl) dX12_fits_599 ⟨Nat.zero_le _, Nat.zero_le _⟩ (fun r219 σ218 H locs hF hP hS => ?_)
      refine lv_istore (lv' := [(6, .int r219), (0, .ref (α.1 1)), (1, .int x1), (2, .int x2), (3, .int x3), (4, .int x4)]) hx hb dX12_fits_602 hl (by decide) rfl (fun ls hl => ?_)
      refine lv_iload hx hb dX12_fits_604 (lv_at hl 0 rfl) ?_
      refine lv_bipush (v := 97) hx hb dX12_fits_606 (by decide) ?_
      refine lv_icmp_eq (tgt := 619) hx hb dX12_fits_608 (by decide) (fun h220 => ?_) (fun h220 => ?_)
      · replace hF := hF.1 h220
        exact B619 σ218 hF H locs ls hP hS (lv_sub hl [] rfl)
      · replace hF := hF.2 h220
        refine lv_iload hx hb dX12_fits_611 (lv_at hl 0 rfl) ?_
        refine sm_si (As := [.int r219]) (rest := []) hP hK hD hE hS hA ⟨hx, hb, hml, hown, hts⟩ hl.1 (c_X12_isSome l D H.size t0 σ218 α r219 _ hF) (va_cwS 1 hts wg_X12_fits_X12_isSome_7 rfl rfl rfl (by decide +kernel) ⟨Nat.le_of_ble_eq_true rfl, Nat.le_of_ble_eq_true rfl⟩) rfl rfl (Nat.le_of_ble_eq_true rfl) dX12_fits_613 ⟨Nat.zero_le _, Nat.zero_le _⟩ (fun r222 σ221 H locs hF hP hS => ?_)
        refine lv_if_eq (tgt := 623) hx hb dX12_fits_616 (by decide) (fun h223 => ?_) (fun h223 => ?_)
        · replace hF := hF.1 h223
          refine lv_iconst (v := 0) hx hb dX12_fits_623 (by decide) ?_
          exact B624 σ221 0 hF H locs ls hP hS (lv_sub hl [] rfl)
        · replace hF := hF.2 h223
          exact B619 σ221 hF H locs ls hP hS (lv_sub hl [] rfl)
    clear gh217
    obtain ⟨gh224, hF⟩ := hF
    by_cases h224 : x2 = 34
    · refine lv_tableIn (tgt := 597) hx hb dX12_fits_86 (by rw [h224]; decide) (by rw [h224]; decide) (by rw [h224]; rfl) (by decide) ?_
      clear hF
      have hF := gh224 h224
      clear gh224
      refine lv_aload_n hx hb dX12_fits_597 rfl (lv_at hl 0 rfl) ?_
      refine lv_iload_n hx hb dX12_fits_598 rfl (lv_at hl 1 rfl) ?_
      refine sm_vi (As := [.int x1]) (rest := []) hP hK hD hE hS hA ⟨hx, hb, hml, hown, hts⟩ hl.1 (c_X12_pop l D H.size t0 σ α x1 _ hF) (cwV 1 hts wg_X12_fits_X12_pop_61 rfl rfl rfl (by decide +kernel) ⟨Nat.le_of_ble_eq_true rfl, Nat.le_of_ble_eq_true rfl⟩) (va_recv hK hP (ci := 12) (q0 := 1) rfl (sm_gX12 σ α)) rfl rfl (Nat.le_of_ble_eq_true rfl) dX12_fits_599 ⟨Nat.zero_le _, Nat.zero_le _⟩ (fun r226 σ225 H locs hF hP hS => ?_)
      refine lv_istore (lv' := [(6, .int r226), (0, .ref (α.1 1)), (1, .int x1), (2, .int x2), (3, .int x3), (4, .int x4)]) hx hb dX12_fits_602 hl (by decide) rfl (fun ls hl => ?_)
      refine lv_iload hx hb dX12_fits_604 (lv_at hl 0 rfl) ?_
      refine lv_bipush (v := 97) hx hb dX12_fits_606 (by decide) ?_
      refine lv_icmp_eq (tgt := 619) hx hb dX12_fits_608 (by decide) (fun h227 => ?_) (fun h227 => ?_)
      · replace hF := hF.1 h227
        exact B619 σ225 hF H locs ls hP hS (lv_sub hl [] rfl)
      · replace hF := hF.2 h227
        refine lv_iload hx hb dX12_fits_611 (lv_at hl 0 rfl) ?_
        refine sm_si (As := [.int r226]) (rest := []) hP hK hD hE hS hA ⟨hx, hb, hml, hown, hts⟩ hl.1 (c_X12_isSome l D H.size t0 σ225 α r226 _ hF) (va_cwS 1 hts wg_X12_fits_X12_isSome_7 rfl rfl rfl (by decide +kernel) ⟨Nat.le_of_ble_eq_true rfl, Nat.le_of_ble_eq_true rfl⟩) rfl rfl (Nat.le_of_ble_eq_true rfl) dX12_fits_613 ⟨Nat.zero_le _, Nat.zero_le _⟩ (fun r229 σ228 H locs hF hP hS => ?_)
        refine lv_if_eq (tgt := 623) hx hb dX12_fits_616 (by decide) (fun h230 => ?_) (fun h230 => ?_)
        · replace hF := hF.1 h230
          refine lv_iconst (v := 0) hx hb dX12_fits_623 (by decide) ?_
          exact B624 σ228 0 hF H locs ls hP hS (lv_sub hl [] rfl)
        · replace hF := hF.2 h230
          exact B619 σ228 hF H locs ls hP hS (lv_sub hl [] rfl)
    clear gh224
    obtain ⟨gh231, hF⟩ := hF
    by_cases h231 : x2 = 35
    · refine lv_tableIn (tgt := 464) hx hb dX12_fits_86 (by rw [h231]; decide) (by rw [h231]; decide) (by rw [h231]; rfl) (by decide) ?_
      clear hF
      have hF := gh231 h231
      clear gh231
      refine lv_aload_n hx hb dX12_fits_464 rfl (lv_at hl 0 rfl) ?_
      refine lv_iload_n hx hb dX12_fits_465 rfl (lv_at hl 1 rfl) ?_
      refine lv_iload_n hx hb dX12_fits_466 rfl (lv_at hl 3 rfl) ?_
      refine lv_iconst (v := 0) hx hb dX12_fits_467 (by decide) ?_
      refine sm_vi (As := [.int x1, .int x3, .int 0]) (rest := []) hP hK hD hE hS hA ⟨hx, hb, hml, hown, hts⟩ hl.1 (c_X12_popParameters l D H.size t0 σ α x1 x3 0 _ hF) (cwV 3 hts wg_X12_fits_X12_popParameters_102 rfl rfl rfl (by decide +kernel) ⟨Nat.le_of_ble_eq_true rfl, Nat.le_of_ble_eq_true rfl⟩) (va_recv hK hP (ci := 12) (q0 := 1) rfl (sm_gX12 σ α)) rfl rfl (Nat.le_of_ble_eq_true rfl) dX12_fits_468 ⟨Nat.zero_le _, Nat.zero_le _⟩ (fun r233 σ232 H locs hF hP hS => ?_)
      refine lv_if_eq (tgt := 487) hx hb dX12_fits_471 (by decide) (fun h234 => ?_) (fun h234 => ?_)
      · replace hF := hF.1 h234
        exact B487 σ232 hF H locs ls hP hS (lv_sub hl [] rfl)
      · replace hF := hF.2 h234
        refine lv_aload_n hx hb dX12_fits_474 rfl (lv_at hl 0 rfl) ?_
        refine lv_iload_n hx hb dX12_fits_475 rfl (lv_at hl 1 rfl) ?_
        refine lv_iload_n hx hb dX12_fits_476 rfl (lv_at hl 3 rfl) ?_
        refine sm_vi (As := [.int x1, .int x3]) (rest := []) hP hK hD hE hS hA ⟨hx, hb, hml, hown, hts⟩ hl.1 (c_X12_pushGiven l D H.size t0 σ232 α x1 x3 _ hF) (cwV 2 hts wg_X12_fits_X12_pushGiven_105 rfl rfl rfl (by decide +kernel) ⟨Nat.le_of_ble_eq_true rfl, Nat.le_of_ble_eq_true rfl⟩) (va_recv hK hP (ci := 12) (q0 := 1) rfl (sm_gX12 σ232 α)) rfl rfl (Nat.le_of_ble_eq_true rfl) dX12_fits_477 ⟨Nat.zero_le _, Nat.zero_le _⟩ (fun r236 σ235 H locs hF hP hS => ?_)
        refine lv_if_eq (tgt := 487) hx hb dX12_fits_480 (by decide) (fun h237 => ?_) (fun h237 => ?_)
        · replace hF := hF.1 h237
          exact B487 σ235 hF H locs ls hP hS (lv_sub hl [] rfl)
        · replace hF := hF.2 h237
          refine lv_iconst (v := 1) hx hb dX12_fits_483 (by decide) ?_
          refine lv_goto (tgt := 488) hx hb dX12_fits_484 (by decide) ?_
          exact B488 σ235 1 hF H locs ls hP hS (lv_sub hl [] rfl)
    clear gh231
    obtain ⟨gh238, hF⟩ := hF
    by_cases h238 : x2 = 36
    · refine lv_tableIn (tgt := 489) hx hb dX12_fits_86 (by rw [h238]; decide) (by rw [h238]; decide) (by rw [h238]; rfl) (by decide) ?_
      clear hF
      have hF := gh238 h238
      clear gh238
      refine lv_aload_n hx hb dX12_fits_489 rfl (lv_at hl 0 rfl) ?_
      refine va_get (D := D) (ci := 12) (v := .ref (α.1 0)) (C := RX12) (T := TX12) (N := 42) hx hb hts in_X12 hown hK hP 1 (sm_gX12 σ α) rfl 0 (by decide) k_0 (fun _ h9 => h9) rfl dX12_fits_490 ?_
      refine va_getN (D := D) (ci := 11) (v := .ref (α.1 8)) (C := RX11) (T := TX11) (N := 28) hx hb hts in_X11 hown hK hP 0 (sm_gX11 σ α) rfl 12 (by decide) (va_Nw.use rfl (hE.1 (.fieldLinkNest "SteadyMachineModel" 108 "SteadyMachineModel$Image" "slots" "[I" "SteadyMachineModel") (by decide +kernel))) (fun _ h9 => h9) rfl dX12_fits_493 ?_
      refine lv_bipush (v := 16) hx hb dX12_fits_496 (by decide) ?_
      refine lv_iload_n hx hb dX12_fits_498 rfl (lv_at hl 3 rfl) ?_
      refine lv_imul hx hb dX12_fits_499 ?_
      refine lv_iload hx hb dX12_fits_500 (lv_at hl 4 rfl) ?_
      refine lv_iadd hx hb dX12_fits_502 ?_
      obtain ⟨h239, hF⟩ := hF
      refine va_iald (n := (σ.2.2.1 8)) (f := (σ.2.2.2.1 8)) hx hb hK hP 8 6 (sm_aM8 σ α) (sm_yM8 α) h239 dX12_fits_503 ?_
      refine lv_topi (fun v240 ev240 => ?_)
      replace hF := hF v240 ev240
      refine lv_istore (lv' := [(5, .int v240), (0, .ref (α.1 1)), (1, .int x1), (2, .int x2), (3, .int x3), (4, .int x4)]) hx hb dX12_fits_504 hl (by decide) rfl (fun ls hl => ?_)
      refine lv_aload_n hx hb dX12_fits_506 rfl (lv_at hl 1 rfl) ?_
      refine lv_iload_n hx hb dX12_fits_507 rfl (lv_at hl 2 rfl) ?_
      refine lv_iload hx hb dX12_fits_508 (lv_at hl 0 rfl) ?_
      refine lv_iconst (v := 1) hx hb dX12_fits_510 (by decide) ?_
      refine sm_vi (As := [.int x1, .int v240, .int 1]) (rest := []) hP hK hD hE hS hA ⟨hx, hb, hml, hown, hts⟩ hl.1 (c_X12_popParameters l D H.size t0 σ α x1 v240 1 _ hF) (cwV 3 hts wg_X12_fits_X12_popParameters_102 rfl rfl rfl (by decide +kernel) ⟨Nat.le_of_ble_eq_true rfl, Nat.le_of_ble_eq_true rfl⟩) (va_recv hK hP (ci := 12) (q0 := 1) rfl (sm_gX12 σ α)) rfl rfl (Nat.le_of_ble_eq_true rfl) dX12_fits_511 ⟨Nat.zero_le _, Nat.zero_le _⟩ (fun r242 σ241 H locs hF hP hS => ?_)
      refine lv_if_eq (tgt := 542) hx hb dX12_fits_514 (by decide) (fun h243 => ?_) (fun h243 => ?_)
      · replace hF := hF.1 h243
        exact B542 σ241 hF H locs ls hP hS (lv_sub hl [] rfl)
      · replace hF := hF.2 h243
        refine lv_aload_n hx hb dX12_fits_517 rfl (lv_at hl 1 rfl) ?_
        refine lv_iload_n hx hb dX12_fits_518 rfl (lv_at hl 2 rfl) ?_
        refine lv_iconst (v := 1) hx hb dX12_fits_519 (by decide) ?_
        refine lv_iload_n hx hb dX12_fits_520 rfl (lv_at hl 4 rfl) ?_
        refine lv_iadd hx hb dX12_fits_521 ?_
        refine sm_vi (As := [.int x1, .int (1 + x3)]) (rest := []) hP hK hD hE hS hA ⟨hx, hb, hml, hown, hts⟩ hl.1 (c_X12_popInto l D H.size t0 σ241 α x1 (1 + x3) _ hF) (cwV 2 hts wg_X12_fits_X12_popInto_74 rfl rfl rfl (by decide +kernel) ⟨Nat.le_of_ble_eq_true rfl, Nat.le_of_ble_eq_true rfl⟩) (va_recv hK hP (ci := 12) (q0 := 1) rfl (sm_gX12 σ241 α)) rfl rfl (Nat.le_of_ble_eq_true rfl) dX12_fits_522 ⟨Nat.zero_le _, Nat.zero_le _⟩ (fun r245 σ244 H locs hF hP hS => ?_)
        refine lv_if_eq (tgt := 542) hx hb dX12_fits_525 (by decide) (fun h246 => ?_) (fun h246 => ?_)
        · replace hF := hF.1 h246
          exact B542 σ244 hF H locs ls hP hS (lv_sub hl [] rfl)
        · replace hF := hF.2 h246
          refine lv_aload_n hx hb dX12_fits_528 rfl (lv_at hl 1 rfl) ?_
          refine lv_iload_n hx hb dX12_fits_529 rfl (lv_at hl 2 rfl) ?_
          refine lv_iload hx hb dX12_fits_530 (lv_at hl 0 rfl) ?_
          refine sm_vi (As := [.int x1, .int v240]) (rest := []) hP hK hD hE hS hA ⟨hx, hb, hml, hown, hts⟩ hl.1 (c_X12_pushGiven l D H.size t0 σ244 α x1 v240 _ hF) (cwV 2 hts wg_X12_fits_X12_pushGiven_105 rfl rfl rfl (by decide +kernel) ⟨Nat.le_of_ble_eq_true rfl, Nat.le_of_ble_eq_true rfl⟩) (va_recv hK hP (ci := 12) (q0 := 1) rfl (sm_gX12 σ244 α)) rfl rfl (Nat.le_of_ble_eq_true rfl) dX12_fits_532 ⟨Nat.zero_le _, Nat.zero_le _⟩ (fun r248 σ247 H locs hF hP hS => ?_)
          refine lv_if_eq (tgt := 542) hx hb dX12_fits_535 (by decide) (fun h249 => ?_) (fun h249 => ?_)
          · replace hF := hF.1 h249
            exact B542 σ247 hF H locs ls hP hS (lv_sub hl [] rfl)
          · replace hF := hF.2 h249
            refine lv_iconst (v := 1) hx hb dX12_fits_538 (by decide) ?_
            refine lv_goto (tgt := 543) hx hb dX12_fits_539 (by decide) ?_
            exact B543 σ247 1 hF H locs ls hP hS (lv_sub hl [] rfl)
    clear gh238
    obtain ⟨gh250, hF⟩ := hF
    by_cases h250 : x2 = 37
    · refine lv_tableIn (tgt := 544) hx hb dX12_fits_86 (by rw [h250]; decide) (by rw [h250]; decide) (by rw [h250]; rfl) (by decide) ?_
      clear hF
      have hF := gh250 h250
      clear gh250
      refine lv_aload_n hx hb dX12_fits_544 rfl (lv_at hl 0 rfl) ?_
      refine va_get (D := D) (ci := 12) (v := .ref (α.1 0)) (C := RX12) (T := TX12) (N := 42) hx hb hts in_X12 hown hK hP 1 (sm_gX12 σ α) rfl 0 (by decide) k_0 (fun _ h9 => h9) rfl dX12_fits_545 ?_
      refine va_getN (D := D) (ci := 11) (v := .ref (α.1 14)) (C := RX11) (T := TX11) (N := 28) hx hb hts in_X11 hown hK hP 0 (sm_gX11 σ α) rfl 19 (by decide) (va_Nw.use rfl (hE.1 (.fieldLinkNest "SteadyMachineModel" 77 "SteadyMachineModel$Image" "gives" "[I" "SteadyMachineModel") (by decide +kernel))) (fun _ h9 => h9) rfl dX12_fits_548 ?_
      refine lv_iload_n hx hb dX12_fits_551 rfl (lv_at hl 1 rfl) ?_
      obtain ⟨h251, hF⟩ := hF
      refine va_iald (n := (σ.2.2.1 14)) (f := (σ.2.2.2.1 14)) hx hb hK hP 14 12 (sm_aM14 σ α) (sm_yM14 α) h251 dX12_fits_552 ?_
      refine lv_if_ge (tgt := 560) hx hb dX12_fits_553 (by decide) (fun h252 => ?_) (fun h252 => ?_)
      · replace hF := hF.1 h252
        refine lv_iconst (v := 0) hx hb dX12_fits_560 (by decide) ?_
        exact B561 σ 0 hF H locs ls hP hS (lv_sub hl [] rfl)
      · replace hF := hF.2 h252
        refine lv_iconst (v := 1) hx hb dX12_fits_556 (by decide) ?_
        refine lv_goto (tgt := 561) hx hb dX12_fits_557 (by decide) ?_
        exact B561 σ 1 hF H locs ls hP hS (lv_sub hl [] rfl)
    clear gh250
    obtain ⟨gh253, hF⟩ := hF
    by_cases h253 : x2 = 38
    · refine lv_tableIn (tgt := 562) hx hb dX12_fits_86 (by rw [h253]; decide) (by rw [h253]; decide) (by rw [h253]; rfl) (by decide) ?_
      clear hF
      have hF := gh253 h253
      clear gh253
      refine lv_aload_n hx hb dX12_fits_562 rfl (lv_at hl 0 rfl) ?_
      refine va_get (D := D) (ci := 12) (v := .ref (α.1 0)) (C := RX12) (T := TX12) (N := 42) hx hb hts in_X12 hown hK hP 1 (sm_gX12 σ α) rfl 0 (by decide) k_0 (fun _ h9 => h9) rfl dX12_fits_563 ?_
      refine va_getN (D := D) (ci := 11) (v := .ref (α.1 14)) (C := RX11) (T := TX11) (N := 28) hx hb hts in_X11 hown hK hP 0 (sm_gX11 σ α) rfl 19 (by decide) (va_Nw.use rfl (hE.1 (.fieldLinkNest "SteadyMachineModel" 77 "SteadyMachineModel$Image" "gives" "[I" "SteadyMachineModel") (by decide +kernel))) (fun _ h9 => h9) rfl dX12_fits_566 ?_
      refine lv_iload_n hx hb dX12_fits_569 rfl (lv_at hl 1 rfl) ?_
      obtain ⟨h254, hF⟩ := hF
      refine va_iald (n := (σ.2.2.1 14)) (f := (σ.2.2.2.1 14)) hx hb hK hP 14 12 (sm_aM14 σ α) (sm_yM14 α) h254 dX12_fits_570 ?_
      refine lv_if_lt (tgt := 595) hx hb dX12_fits_571 (by decide) (fun h255 => ?_) (fun h255 => ?_)
      · replace hF := hF.1 h255
        exact B595 σ hF H locs ls hP hS (lv_sub hl [] rfl)
      · replace hF := hF.2 h255
        refine lv_aload_n hx hb dX12_fits_574 rfl (lv_at hl 0 rfl) ?_
        refine lv_iload_n hx hb dX12_fits_575 rfl (lv_at hl 1 rfl) ?_
        refine lv_aload_n hx hb dX12_fits_576 rfl (lv_at hl 0 rfl) ?_
        refine va_get (D := D) (ci := 12) (v := .ref (α.1 0)) (C := RX12) (T := TX12) (N := 42) hx hb hts in_X12 hown hK hP 1 (sm_gX12 σ α) rfl 0 (by decide) k_0 (fun _ h9 => h9) rfl dX12_fits_577 ?_
        refine va_getN (D := D) (ci := 11) (v := .ref (α.1 14)) (C := RX11) (T := TX11) (N := 28) hx hb hts in_X11 hown hK hP 0 (sm_gX11 σ α) rfl 19 (by decide) (va_Nw.use rfl (hE.1 (.fieldLinkNest "SteadyMachineModel" 77 "SteadyMachineModel$Image" "gives" "[I" "SteadyMachineModel") (by decide +kernel))) (fun _ h9 => h9) rfl dX12_fits_580 ?_
        refine lv_iload_n hx hb dX12_fits_583 rfl (lv_at hl 1 rfl) ?_
        obtain ⟨h256, hF⟩ := hF
        refine va_iald (n := (σ.2.2.1 14)) (f := (σ.2.2.2.1 14)) hx hb hK hP 14 12 (sm_aM14 σ α) (sm_yM14 α) h256 dX12_fits_584 ?_
        refine sm_vi (As := [.int x1, .int ((σ.2.2.2.1 14) x1.toNatClampNeg)]) (rest := []) hP hK hD hE hS hA ⟨hx, hb, hml, hown, hts⟩ hl.1 (c_X12_popInto l D H.size t0 σ α x1 ((σ.2.2.2.1 14) x1.toNatClampNeg) _ hF) (cwV 2 hts wg_X12_fits_X12_popInto_74 rfl rfl rfl (by decide +kernel) ⟨Nat.le_of_ble_eq_true rfl, Nat.le_of_ble_eq_true rfl⟩) (va_recv hK hP (ci := 12) (q0 := 1) rfl (sm_gX12 σ α)) rfl rfl (Nat.le_of_ble_eq_true rfl) dX12_fits_585 ⟨Nat.zero_le _, Nat.zero_le _⟩ (fun r258 σ257 H locs hF hP hS => ?_)
        refine lv_if_eq (tgt := 595) hx hb dX12_fits_588 (by decide) (fun h259 => ?_) (fun h259 => ?_)
        · replace hF := hF.1 h259
          exact B595 σ257 hF H locs ls hP hS (lv_sub hl [] rfl)
        · replace hF := hF.2 h259
          refine lv_iconst (v := 1) hx hb dX12_fits_591 (by decide) ?_
          refine lv_goto (tgt := 596) hx hb dX12_fits_592 (by decide) ?_
          exact B596 σ257 1 hF H locs ls hP hS (lv_sub hl [] rfl)
    clear gh253
    obtain ⟨gh260, hF⟩ := hF
    by_cases h260 : x2 = 39
    · refine lv_tableIn (tgt := 597) hx hb dX12_fits_86 (by rw [h260]; decide) (by rw [h260]; decide) (by rw [h260]; rfl) (by decide) ?_
      clear hF
      have hF := gh260 h260
      clear gh260
      refine lv_aload_n hx hb dX12_fits_597 rfl (lv_at hl 0 rfl) ?_
      refine lv_iload_n hx hb dX12_fits_598 rfl (lv_at hl 1 rfl) ?_
      refine sm_vi (As := [.int x1]) (rest := []) hP hK hD hE hS hA ⟨hx, hb, hml, hown, hts⟩ hl.1 (c_X12_pop l D H.size t0 σ α x1 _ hF) (cwV 1 hts wg_X12_fits_X12_pop_61 rfl rfl rfl (by decide +kernel) ⟨Nat.le_of_ble_eq_true rfl, Nat.le_of_ble_eq_true rfl⟩) (va_recv hK hP (ci := 12) (q0 := 1) rfl (sm_gX12 σ α)) rfl rfl (Nat.le_of_ble_eq_true rfl) dX12_fits_599 ⟨Nat.zero_le _, Nat.zero_le _⟩ (fun r262 σ261 H locs hF hP hS => ?_)
      refine lv_istore (lv' := [(6, .int r262), (0, .ref (α.1 1)), (1, .int x1), (2, .int x2), (3, .int x3), (4, .int x4)]) hx hb dX12_fits_602 hl (by decide) rfl (fun ls hl => ?_)
      refine lv_iload hx hb dX12_fits_604 (lv_at hl 0 rfl) ?_
      refine lv_bipush (v := 97) hx hb dX12_fits_606 (by decide) ?_
      refine lv_icmp_eq (tgt := 619) hx hb dX12_fits_608 (by decide) (fun h263 => ?_) (fun h263 => ?_)
      · replace hF := hF.1 h263
        exact B619 σ261 hF H locs ls hP hS (lv_sub hl [] rfl)
      · replace hF := hF.2 h263
        refine lv_iload hx hb dX12_fits_611 (lv_at hl 0 rfl) ?_
        refine sm_si (As := [.int r262]) (rest := []) hP hK hD hE hS hA ⟨hx, hb, hml, hown, hts⟩ hl.1 (c_X12_isSome l D H.size t0 σ261 α r262 _ hF) (va_cwS 1 hts wg_X12_fits_X12_isSome_7 rfl rfl rfl (by decide +kernel) ⟨Nat.le_of_ble_eq_true rfl, Nat.le_of_ble_eq_true rfl⟩) rfl rfl (Nat.le_of_ble_eq_true rfl) dX12_fits_613 ⟨Nat.zero_le _, Nat.zero_le _⟩ (fun r265 σ264 H locs hF hP hS => ?_)
        refine lv_if_eq (tgt := 623) hx hb dX12_fits_616 (by decide) (fun h266 => ?_) (fun h266 => ?_)
        · replace hF := hF.1 h266
          refine lv_iconst (v := 0) hx hb dX12_fits_623 (by decide) ?_
          exact B624 σ264 0 hF H locs ls hP hS (lv_sub hl [] rfl)
        · replace hF := hF.2 h266
          exact B619 σ264 hF H locs ls hP hS (lv_sub hl [] rfl)
    clear gh260
    obtain ⟨gh267, hF⟩ := hF
    by_cases h267 : x2 = 40
    · refine lv_tableIn (tgt := 268) hx hb dX12_fits_86 (by rw [h267]; decide) (by rw [h267]; decide) (by rw [h267]; rfl) (by decide) ?_
      clear hF
      have hF := gh267 h267
      clear gh267
      refine lv_aload_n hx hb dX12_fits_268 rfl (lv_at hl 0 rfl) ?_
      refine lv_iload_n hx hb dX12_fits_269 rfl (lv_at hl 1 rfl) ?_
      refine lv_iconst (v := 0) hx hb dX12_fits_270 (by decide) ?_
      refine sm_vi (As := [.int x1, .int 0]) (rest := []) hP hK hD hE hS hA ⟨hx, hb, hml, hown, hts⟩ hl.1 (c_X12_push l D H.size t0 σ α x1 0 _ hF) (cwV 2 hts wg_X12_fits_X12_push_80 rfl rfl rfl (by decide +kernel) ⟨Nat.le_of_ble_eq_true rfl, Nat.le_of_ble_eq_true rfl⟩) (va_recv hK hP (ci := 12) (q0 := 1) rfl (sm_gX12 σ α)) rfl rfl (Nat.le_of_ble_eq_true rfl) dX12_fits_271 ⟨Nat.zero_le _, Nat.zero_le _⟩ (fun r269 σ268 H locs hF hP hS => ?_)
      obtain ⟨h270, hF⟩ := hF
      exact W.zret (v := r269) hx hb hr h270.1 (fun t ht hW => ⟨⟨r269, σ268, rfl, hF, (by unfold sm_B; rw [ht]; exact hP)⟩, hS.F ht⟩) hS.2.2 dX12_fits_274
    clear gh267
    obtain ⟨gh271, hF⟩ := hF
    by_cases h271 : x2 = 41
    · refine lv_tableIn (tgt := 283) hx hb dX12_fits_86 (by rw [h271]; decide) (by rw [h271]; decide) (by rw [h271]; rfl) (by decide) ?_
      clear hF
      have hF := gh271 h271
      clear gh271
      refine lv_aload_n hx hb dX12_fits_283 rfl (lv_at hl 0 rfl) ?_
      refine lv_iload_n hx hb dX12_fits_284 rfl (lv_at hl 1 rfl) ?_
      refine lv_iconst (v := 1) hx hb dX12_fits_285 (by decide) ?_
      refine sm_vi (As := [.int x1, .int 1]) (rest := []) hP hK hD hE hS hA ⟨hx, hb, hml, hown, hts⟩ hl.1 (c_X12_popInts l D H.size t0 σ α x1 1 _ hF) (cwV 2 hts wg_X12_fits_X12_popInts_83 rfl rfl rfl (by decide +kernel) ⟨Nat.le_of_ble_eq_true rfl, Nat.le_of_ble_eq_true rfl⟩) (va_recv hK hP (ci := 12) (q0 := 1) rfl (sm_gX12 σ α)) rfl rfl (Nat.le_of_ble_eq_true rfl) dX12_fits_286 ⟨Nat.zero_le _, Nat.zero_le _⟩ (fun r273 σ272 H locs hF hP hS => ?_)
      obtain ⟨h274, hF⟩ := hF
      exact W.zret (v := r273) hx hb hr h274.1 (fun t ht hW => ⟨⟨r273, σ272, rfl, hF, (by unfold sm_B; rw [ht]; exact hP)⟩, hS.F ht⟩) hS.2.2 dX12_fits_289
    clear gh271
    refine lv_tableOut (tgt := 597) hx hb dX12_fits_86 (by have q0 := lv_neT h11 (show Int32.toInt 0 = 0 by decide); have q1 := lv_neT h15 (show Int32.toInt 1 = 1 by decide); have q2 := lv_neT h19 (show Int32.toInt 2 = 2 by decide); have q3 := lv_neT h26 (show Int32.toInt 3 = 3 by decide); have q4 := lv_neT h33 (show Int32.toInt 4 = 4 by decide); have q5 := lv_neT h40 (show Int32.toInt 5 = 5 by decide); have q6 := lv_neT h47 (show Int32.toInt 6 = 6 by decide); have q7 := lv_neT h54 (show Int32.toInt 7 = 7 by decide); have q8 := lv_neT h61 (show Int32.toInt 8 = 8 by decide); have q9 := lv_neT h68 (show Int32.toInt 9 = 9 by decide); have q10 := lv_neT h75 (show Int32.toInt 10 = 10 by decide); have q11 := lv_neT h82 (show Int32.toInt 11 = 11 by decide); have q12 := lv_neT h89 (show Int32.toInt 12 = 12 by decide); have q13 := lv_neT h96 (show Int32.toInt 13 = 13 by decide); have q14 := lv_neT h103 (show Int32.toInt 14 = 14 by decide); have q15 := lv_neT h110 (show Int32.toInt 15 = 15 by decide); have q16 := lv_neT h117 (show Int32.toInt 16 = 16 by decide); have q17 := lv_neT h124 (show Int32.toInt 17 = 17 by decide); have q18 := lv_neT h131 (show Int32.toInt 18 = 18 by decide); have q19 := lv_neT h138 (show Int32.toInt 19 = 19 by decide); have q20 := lv_neT h142 (show Int32.toInt 20 = 20 by decide); have q21 := lv_neT h146 (show Int32.toInt 21 = 21 by decide); have q22 := lv_neT h150 (show Int32.toInt 22 = 22 by decide); have q23 := lv_neT h154 (show Int32.toInt 23 = 23 by decide); have q24 := lv_neT h161 (show Int32.toInt 24 = 24 by decide); have q25 := lv_neT h168 (show Int32.toInt 25 = 25 by decide); have q26 := lv_neT h169 (show Int32.toInt 26 = 26 by decide); have q27 := lv_neT h173 (show Int32.toInt 27 = 27 by decide); have q28 := lv_neT h181 (show Int32.toInt 28 = 28 by decide); have q29 := lv_neT h189 (show Int32.toInt 29 = 29 by decide); have q30 := lv_neT h196 (show Int32.toInt 30 = 30 by decide); have q31 := lv_neT h203 (show Int32.toInt 31 = 31 by decide); have q32 := lv_neT h210 (show Int32.toInt 32 = 32 by decide); have q33 := lv_neT h217 (show Int32.toInt 33 = 33 by decide); have q34 := lv_neT h224 (show Int32.toInt 34 = 34 by decide); have q35 := lv_neT h231 (show Int32.toInt 35 = 35 by decide); have q36 := lv_neT h238 (show Int32.toInt 36 = 36 by decide); have q37 := lv_neT h250 (show Int32.toInt 37 = 37 by decide); have q38 := lv_neT h253 (show Int32.toInt 38 = 38 by decide); have q39 := lv_neT h260 (show Int32.toInt 39 = 39 by decide); have q40 := lv_neT h267 (show Int32.toInt 40 = 40 by decide); have q41 := lv_neT h271 (show Int32.toInt 41 = 41 by decide); omega) (by decide) ?_
    replace hF := hF h11 h15 h19 h26 h33 h40 h47 h54 h61 h68 h75 h82 h89 h96 h103 h110 h117 h124 h131 h138 h142 h146 h150 h154 h161 h168 h169 h173 h181 h189 h196 h203 h210 h217 h224 h231 h238 h250 h253 h260 h267 h271
    refine lv_aload_n hx hb dX12_fits_597 rfl (lv_at hl 0 rfl) ?_
    refine lv_iload_n hx hb dX12_fits_598 rfl (lv_at hl 1 rfl) ?_
    refine sm_vi (As := [.int x1]) (rest := []) hP hK hD hE hS hA ⟨hx, hb, hml, hown, hts⟩ hl.1 (c_X12_pop l D H.size t0 σ α x1 _ hF) (cwV 1 hts wg_X12_fits_X12_pop_61 rfl rfl rfl (by decide +kernel) ⟨Nat.le_of_ble_eq_true rfl, Nat.le_of_ble_eq_true rfl⟩) (va_recv hK hP (ci := 12) (q0 := 1) rfl (sm_gX12 σ α)) rfl rfl (Nat.le_of_ble_eq_true rfl) dX12_fits_599 ⟨Nat.zero_le _, Nat.zero_le _⟩ (fun r276 σ275 H locs hF hP hS => ?_)
    refine lv_istore (lv' := [(6, .int r276), (0, .ref (α.1 1)), (1, .int x1), (2, .int x2), (3, .int x3), (4, .int x4)]) hx hb dX12_fits_602 hl (by decide) rfl (fun ls hl => ?_)
    refine lv_iload hx hb dX12_fits_604 (lv_at hl 0 rfl) ?_
    refine lv_bipush (v := 97) hx hb dX12_fits_606 (by decide) ?_
    refine lv_icmp_eq (tgt := 619) hx hb dX12_fits_608 (by decide) (fun h277 => ?_) (fun h277 => ?_)
    · replace hF := hF.1 h277
      exact B619 σ275 hF H locs ls hP hS (lv_sub hl [] rfl)
    · replace hF := hF.2 h277
      refine lv_iload hx hb dX12_fits_611 (lv_at hl 0 rfl) ?_
      refine sm_si (As := [.int r276]) (rest := []) hP hK hD hE hS hA ⟨hx, hb, hml, hown, hts⟩ hl.1 (c_X12_isSome l D H.size t0 σ275 α r276 _ hF) (va_cwS 1 hts wg_X12_fits_X12_isSome_7 rfl rfl rfl (by decide +kernel) ⟨Nat.le_of_ble_eq_true rfl, Nat.le_of_ble_eq_true rfl⟩) rfl rfl (Nat.le_of_ble_eq_true rfl) dX12_fits_613 ⟨Nat.zero_le _, Nat.zero_le _⟩ (fun r279 σ278 H locs hF hP hS => ?_)
      refine lv_if_eq (tgt := 623) hx hb dX12_fits_616 (by decide) (fun h280 => ?_) (fun h280 => ?_)
      · replace hF := hF.1 h280
        refine lv_iconst (v := 0) hx hb dX12_fits_623 (by decide) ?_
        exact B624 σ278 0 hF H locs ls hP hS (lv_sub hl [] rfl)
      · replace hF := hF.2 h280
        exact B619 σ278 hF H locs ls hP hS (lv_sub hl [] rfl)
  have B84 : ∀ (σ : sm_S) (y0 : Int32), mp_X12_fits_84 K σ y0 → sm_J p l e (headSpec wp_X12_fits { frames := 5, cells := 0, slots := 0, locals := 113 }).room s m ([.ref (α.1 1), .int p1, .int p2, .int p3, .int p4] : List Value).toArray below meth c (MQ below (va_Qi K (sm_B sm_wM D α) A) ([.ref (α.1 1), .int p1, .int p2, .int p3, .int p4] : List Value).toArray s 0 0 A) D A 7 (sm_wM σ α) 84 [] [.int y0] := by
    intro σ y0 hF H locs ls hP hS hl
    unfold mp_X12_fits_84 at hF
    obtain ⟨h281, hF⟩ := hF
    exact W.zret (v := y0) hx hb hr h281.1 (fun t ht hW => ⟨⟨y0, σ, rfl, hF, (by unfold sm_B; rw [ht]; exact hP)⟩, hS.F ht⟩) hS.2.2 dX12_fits_84
  have B83 : ∀ (σ : sm_S), mp_X12_fits_83 K σ → sm_J p l e (headSpec wp_X12_fits { frames := 5, cells := 0, slots := 0, locals := 113 }).room s m ([.ref (α.1 1), .int p1, .int p2, .int p3, .int p4] : List Value).toArray below meth c (MQ below (va_Qi K (sm_B sm_wM D α) A) ([.ref (α.1 1), .int p1, .int p2, .int p3, .int p4] : List Value).toArray s 0 0 A) D A 7 (sm_wM σ α) 83 [] [] := by
    intro σ hF H locs ls hP hS hl
    unfold mp_X12_fits_83 at hF
    refine lv_iconst (v := 0) hx hb dX12_fits_83 (by decide) ?_
    exact B84 σ 0 hF H locs ls hP hS (lv_sub hl [] rfl)
  have B64 : ∀ (σ : sm_S) (x1 : Int32) (y1 : Int32) (y2 : Int32), mp_X12_fits_64 K σ x1 y1 y2 → sm_J p l e (headSpec wp_X12_fits { frames := 5, cells := 0, slots := 0, locals := 113 }).room s m ([.ref (α.1 1), .int p1, .int p2, .int p3, .int p4] : List Value).toArray below meth c (MQ below (va_Qi K (sm_B sm_wM D α) A) ([.ref (α.1 1), .int p1, .int p2, .int p3, .int p4] : List Value).toArray s 0 0 A) D A 7 (sm_wM σ α) 64 [(0, .ref (α.1 1)), (1, .int x1)] [.int y2, .int y1, .ref (α.1 1)] := by
    intro σ x1 y1 y2 hF H locs ls hP hS hl
    unfold mp_X12_fits_64 at hF
    refine sm_vi (As := [.int y1, .int y2]) (rest := []) hP hK hD hE hS hA ⟨hx, hb, hml, hown, hts⟩ hl.1 (c_X12_popInts l D H.size t0 σ α y1 y2 _ hF) (cwV 2 hts wg_X12_fits_X12_popInts_83 rfl rfl rfl (by decide +kernel) ⟨Nat.le_of_ble_eq_true rfl, Nat.le_of_ble_eq_true rfl⟩) (va_recv hK hP (ci := 12) (q0 := 1) rfl (sm_gX12 σ α)) rfl rfl (Nat.le_of_ble_eq_true rfl) dX12_fits_64 ⟨Nat.zero_le _, Nat.zero_le _⟩ (fun r283 σ282 H locs hF hP hS => ?_)
    refine lv_if_eq (tgt := 83) hx hb dX12_fits_67 (by decide) (fun h284 => ?_) (fun h284 => ?_)
    · replace hF := hF.1 h284
      exact B83 σ282 hF H locs ls hP hS (lv_sub hl [] rfl)
    · replace hF := hF.2 h284
      refine lv_aload_n hx hb dX12_fits_70 rfl (lv_at hl 0 rfl) ?_
      refine lv_iload_n hx hb dX12_fits_71 rfl (lv_at hl 1 rfl) ?_
      refine lv_iconst (v := 0) hx hb dX12_fits_72 (by decide) ?_
      refine sm_vi (As := [.int x1, .int 0]) (rest := []) hP hK hD hE hS hA ⟨hx, hb, hml, hown, hts⟩ hl.1 (c_X12_push l D H.size t0 σ282 α x1 0 _ hF) (cwV 2 hts wg_X12_fits_X12_push_80 rfl rfl rfl (by decide +kernel) ⟨Nat.le_of_ble_eq_true rfl, Nat.le_of_ble_eq_true rfl⟩) (va_recv hK hP (ci := 12) (q0 := 1) rfl (sm_gX12 σ282 α)) rfl rfl (Nat.le_of_ble_eq_true rfl) dX12_fits_73 ⟨Nat.zero_le _, Nat.zero_le _⟩ (fun r286 σ285 H locs hF hP hS => ?_)
      refine lv_if_eq (tgt := 83) hx hb dX12_fits_76 (by decide) (fun h287 => ?_) (fun h287 => ?_)
      · replace hF := hF.1 h287
        exact B83 σ285 hF H locs ls hP hS (lv_sub hl [] rfl)
      · replace hF := hF.2 h287
        refine lv_iconst (v := 1) hx hb dX12_fits_79 (by decide) ?_
        refine lv_goto (tgt := 84) hx hb dX12_fits_80 (by decide) ?_
        exact B84 σ285 1 hF H locs ls hP hS (lv_sub hl [] rfl)
  have B39 : ∀ (σ : sm_S) (x1 : Int32) (x2 : Int32) (x3 : Int32) (x4 : Int32), mp_X12_fits_39 K σ x1 x2 x3 x4 → sm_J p l e (headSpec wp_X12_fits { frames := 5, cells := 0, slots := 0, locals := 113 }).room s m ([.ref (α.1 1), .int p1, .int p2, .int p3, .int p4] : List Value).toArray below meth c (MQ below (va_Qi K (sm_B sm_wM D α) A) ([.ref (α.1 1), .int p1, .int p2, .int p3, .int p4] : List Value).toArray s 0 0 A) D A 7 (sm_wM σ α) 39 [(0, .ref (α.1 1)), (1, .int x1), (2, .int x2), (3, .int x3), (4, .int x4)] [] := by
    intro σ x1 x2 x3 x4 hF H locs ls hP hS hl
    unfold mp_X12_fits_39 at hF
    refine lv_iload_n hx hb dX12_fits_39 rfl (lv_at hl 2 rfl) ?_
    refine lv_bipush (v := 7) hx hb dX12_fits_40 (by decide) ?_
    refine lv_icmp_lt (tgt := 85) hx hb dX12_fits_42 (by decide) (fun h288 => ?_) (fun h288 => ?_)
    · replace hF := hF.1 h288
      exact B85 σ x1 x2 x3 x4 hF H locs ls hP hS (lv_sub hl [0, 1, 2, 3, 4] rfl)
    · replace hF := hF.2 h288
      refine lv_iload_n hx hb dX12_fits_45 rfl (lv_at hl 2 rfl) ?_
      refine lv_bipush (v := 18) hx hb dX12_fits_46 (by decide) ?_
      refine lv_icmp_gt (tgt := 85) hx hb dX12_fits_48 (by decide) (fun h289 => ?_) (fun h289 => ?_)
      · replace hF := hF.1 h289
        exact B85 σ x1 x2 x3 x4 hF H locs ls hP hS (lv_sub hl [0, 1, 2, 3, 4] rfl)
      · replace hF := hF.2 h289
        refine lv_aload_n hx hb dX12_fits_51 rfl (lv_at hl 0 rfl) ?_
        refine lv_iload_n hx hb dX12_fits_52 rfl (lv_at hl 1 rfl) ?_
        refine lv_iload_n hx hb dX12_fits_53 rfl (lv_at hl 2 rfl) ?_
        refine lv_bipush (v := 18) hx hb dX12_fits_54 (by decide) ?_
        refine lv_icmp_ge (tgt := 63) hx hb dX12_fits_56 (by decide) (fun h290 => ?_) (fun h290 => ?_)
        · replace hF := hF.1 h290
          refine lv_iconst (v := 1) hx hb dX12_fits_63 (by decide) ?_
          exact B64 σ x1 x1 1 hF H locs ls hP hS (lv_sub hl [0, 1] rfl)
        · replace hF := hF.2 h290
          refine lv_iconst (v := 2) hx hb dX12_fits_59 (by decide) ?_
          refine lv_goto (tgt := 64) hx hb dX12_fits_60 (by decide) ?_
          exact B64 σ x1 x1 2 hF H locs ls hP hS (lv_sub hl [0, 1] rfl)
  have B19 : ∀ (σ : sm_S) (x1 : Int32) (x2 : Int32) (x3 : Int32) (x4 : Int32), mp_X12_fits_19 K σ x1 x2 x3 x4 → sm_J p l e (headSpec wp_X12_fits { frames := 5, cells := 0, slots := 0, locals := 113 }).room s m ([.ref (α.1 1), .int p1, .int p2, .int p3, .int p4] : List Value).toArray below meth c (MQ below (va_Qi K (sm_B sm_wM D α) A) ([.ref (α.1 1), .int p1, .int p2, .int p3, .int p4] : List Value).toArray s 0 0 A) D A 7 (sm_wM σ α) 19 [(0, .ref (α.1 1)), (1, .int x1), (2, .int x2), (3, .int x3), (4, .int x4)] [] := by
    intro σ x1 x2 x3 x4 hF H locs ls hP hS hl
    unfold mp_X12_fits_19 at hF
    refine lv_iload_n hx hb dX12_fits_19 rfl (lv_at hl 2 rfl) ?_
    refine lv_bipush (v := 31) hx hb dX12_fits_20 (by decide) ?_
    refine lv_icmp_lt (tgt := 39) hx hb dX12_fits_22 (by decide) (fun h291 => ?_) (fun h291 => ?_)
    · replace hF := hF.1 h291
      exact B39 σ x1 x2 x3 x4 hF H locs ls hP hS (lv_sub hl [0, 1, 2, 3, 4] rfl)
    · replace hF := hF.2 h291
      refine lv_iload_n hx hb dX12_fits_25 rfl (lv_at hl 2 rfl) ?_
      refine lv_bipush (v := 34) hx hb dX12_fits_26 (by decide) ?_
      refine lv_icmp_gt (tgt := 39) hx hb dX12_fits_28 (by decide) (fun h292 => ?_) (fun h292 => ?_)
      · replace hF := hF.1 h292
        exact B39 σ x1 x2 x3 x4 hF H locs ls hP hS (lv_sub hl [0, 1, 2, 3, 4] rfl)
      · replace hF := hF.2 h292
        refine lv_aload_n hx hb dX12_fits_31 rfl (lv_at hl 0 rfl) ?_
        refine lv_iload_n hx hb dX12_fits_32 rfl (lv_at hl 1 rfl) ?_
        refine lv_iload_n hx hb dX12_fits_33 rfl (lv_at hl 2 rfl) ?_
        refine lv_iload_n hx hb dX12_fits_34 rfl (lv_at hl 3 rfl) ?_
        refine sm_vi (As := [.int x1, .int x2, .int x3]) (rest := []) hP hK hD hE hS hA ⟨hx, hb, hml, hown, hts⟩ hl.1 (c_X12_fitsRow l D H.size t0 σ α x1 x2 x3 _ hF) (cwV 3 hts wg_X12_fits_X12_fitsRow_93 rfl rfl rfl (by decide +kernel) ⟨Nat.le_of_ble_eq_true rfl, Nat.le_of_ble_eq_true rfl⟩) (va_recv hK hP (ci := 12) (q0 := 1) rfl (sm_gX12 σ α)) rfl rfl (Nat.le_of_ble_eq_true rfl) dX12_fits_35 ⟨Nat.zero_le _, Nat.zero_le _⟩ (fun r294 σ293 H locs hF hP hS => ?_)
        obtain ⟨h295, hF⟩ := hF
        exact W.zret (v := r294) hx hb hr h295.1 (fun t ht hW => ⟨⟨r294, σ293, rfl, hF, (by unfold sm_B; rw [ht]; exact hP)⟩, hS.F ht⟩) hS.2.2 dX12_fits_38
  unfold mp_X12_fits at hF
  revert hP hS
  generalize hLo : ([] : List Loc) = locs
  suffices h9 : ∀ (H : Heap) (locs : List Loc), va_P D vwCl (sm_wM σ α) H → va_S A s.heap H locs → W p l e (headSpec wp_X12_fits { frames := 5, cells := 0, slots := 0, locals := 113 }).room s m ([.ref (α.1 1), .int p1, .int p2, .int p3, .int p4] : List Value).toArray below meth c H locs 0 0 (MQ below (va_Qi K (sm_B sm_wM D α) A) ([.ref (α.1 1), .int p1, .int p2, .int p3, .int p4] : List Value).toArray s 0 0 A) (F0 m 0 ls []) from fun hP hS => h9 s.heap locs hP hS
  intro H locs hP hS
  refine lv_iload_n hx hb dX12_fits_0 rfl (lv_at hl 2 rfl) ?_
  refine lv_iconst (v := 2) hx hb dX12_fits_1 (by decide) ?_
  refine lv_icmp_lt (tgt := 19) hx hb dX12_fits_2 (by decide) (fun h296 => ?_) (fun h296 => ?_)
  · replace hF := hF.1 h296
    exact B19 σ p1 p2 p3 p4 hF H locs ls hP hS (lv_sub hl [0, 1, 2, 3, 4] rfl)
  · replace hF := hF.2 h296
    refine lv_iload_n hx hb dX12_fits_5 rfl (lv_at hl 2 rfl) ?_
    refine lv_bipush (v := 6) hx hb dX12_fits_6 (by decide) ?_
    refine lv_icmp_gt (tgt := 19) hx hb dX12_fits_8 (by decide) (fun h297 => ?_) (fun h297 => ?_)
    · replace hF := hF.1 h297
      exact B19 σ p1 p2 p3 p4 hF H locs ls hP hS (lv_sub hl [0, 1, 2, 3, 4] rfl)
    · replace hF := hF.2 h297
      refine lv_aload_n hx hb dX12_fits_11 rfl (lv_at hl 0 rfl) ?_
      refine lv_iload_n hx hb dX12_fits_12 rfl (lv_at hl 1 rfl) ?_
      refine lv_iload_n hx hb dX12_fits_13 rfl (lv_at hl 2 rfl) ?_
      refine lv_iload_n hx hb dX12_fits_14 rfl (lv_at hl 3 rfl) ?_
      refine sm_vi (As := [.int p1, .int p2, .int p3]) (rest := []) hP hK hD hE hS hA ⟨hx, hb, hml, hown, hts⟩ hl.1 (c_X12_fitsPlace l D H.size t0 σ α p1 p2 p3 _ hF) (cwV 3 hts wg_X12_fits_X12_fitsPlace_89 rfl rfl rfl (by decide +kernel) ⟨Nat.le_of_ble_eq_true rfl, Nat.le_of_ble_eq_true rfl⟩) (va_recv hK hP (ci := 12) (q0 := 1) rfl (sm_gX12 σ α)) rfl rfl (Nat.le_of_ble_eq_true rfl) dX12_fits_15 ⟨Nat.zero_le _, Nat.zero_le _⟩ (fun r299 σ298 H locs hF hP hS => ?_)
      obtain ⟨h300, hF⟩ := hF
      exact W.zret (v := r299) hx hb hr h300.1 (fun t ht hW => ⟨⟨r299, σ298, rfl, hF, (by unfold sm_B; rw [ht]; exact hP)⟩, hS.F ht⟩) hS.2.2 dX12_fits_18
theorem dX12_isJump_0 : decode cX12_isJump 0 = .ok (.iload_n 0, 1) := by decide +kernel
theorem dX12_isJump_1 : decode cX12_isJump 1 = .ok (.bipush 19, 2) := by decide +kernel
theorem dX12_isJump_3 : decode cX12_isJump 3 = .ok (.if_icmp .lt 13, 3) := by decide +kernel
theorem dX12_isJump_6 : decode cX12_isJump 6 = .ok (.iload_n 0, 1) := by decide +kernel
theorem dX12_isJump_7 : decode cX12_isJump 7 = .ok (.bipush 25, 2) := by decide +kernel
theorem dX12_isJump_9 : decode cX12_isJump 9 = .ok (.if_icmp .gt 7, 3) := by decide +kernel
theorem dX12_isJump_12 : decode cX12_isJump 12 = .ok (.iconst 1, 1) := by decide +kernel
theorem dX12_isJump_13 : decode cX12_isJump 13 = .ok (.goto 4, 3) := by decide +kernel
theorem dX12_isJump_16 : decode cX12_isJump 16 = .ok (.iconst 0, 1) := by decide +kernel
theorem dX12_isJump_17 : decode cX12_isJump 17 = .ok (.ireturn, 1) := by decide +kernel
def wp_X12_isJump : List Cond := .code yX12_isJump cX12_isJump 1 (some .boolean) :: []
theorem wq_X12_isJump : wp_X12_isJump.all goodWord = true := wa_c rfl (by decide +kernel)
theorem wt_X12_isJump : GoodIn lw_tbl wp_X12_isJump := wm_c (List.mem_of_getElem? (i := 1361) (by decide +kernel)) rfl (goodIn_r _ [] (by decide +kernel) (by decide +kernel))
set_option maxHeartbeats 4000000 in
set_option maxRecDepth 100000 in
theorem c_X12_isJump (l : Launch) (D : va_G) (sz t0 : Nat) (σ : sm_S) (α : sm_A) (p1 : Int32) (K : Int32 → sm_S → Prop) (hF : mp_X12_isJump σ p1 K) : Met l yX12_isJump wp_X12_isJump { frames := 0, cells := 0, slots := 0, locals := 0 } (sm_P sm_wM sm_tM 40 D sz t0 σ α [.int p1]) (va_Qi K (sm_B sm_wM D α) (sm_a α 40 sz)) 0 0 (sm_a α 40 sz) := by
  refine Met.ofW (cc := cX12_isJump) (maxL := 1) (ret := (some .boolean)) (by decide) rfl ?_
  intro p e s m args below meth c s₁ B hml hv
  obtain ⟨rfl, hsz, hP, hK, hD0, hE⟩ := hv
  have hx := B.exec
  have hb := B.bytes
  have hr := B.returns
  have hts := atoms_spec (ws := wp_X12_isJump) B.pre
  have hown : s.vm.findClass RX12 = some m.cls := findClass_of_methodNamed B.named
  have hlocks := B.notSynchronized
  subst hsz
  have hD : sm_D (sm_a α 40 s.heap.size) α 40 := hD0.own
  have hA : ∀ q : Nat, s.heap.size ≤ q → sm_a α 40 s.heap.size q := fun q h => Or.inr h
  generalize hAe : sm_a α 40 s.heap.size = A at hD hA hE ⊢
  have hS : va_S A s.heap s.heap [] := va_S.rf
  have hl := lv_entry ([.int p1]) (n := 1) (Nat.le_of_ble_eq_true rfl)
  rw [lg_entry_eq]
  generalize (lg_sl ([.int p1]) ++ List.replicate (1 - (lg_sl ([.int p1])).length) Slot.unset).toArray = ls at hl ⊢
  have hl : lv_has ls 1 [(0, .int p1)] := hl
  have B17 : ∀ (σ : sm_S) (y0 : Int32), mp_X12_isJump_17 K σ y0 → sm_J p l e (headSpec wp_X12_isJump { frames := 0, cells := 0, slots := 0, locals := 0 }).room s m ([.int p1] : List Value).toArray below meth c (MQ below (va_Qi K (sm_B sm_wM D α) A) ([.int p1] : List Value).toArray s 0 0 A) D A 1 (sm_wM σ α) 17 [] [.int y0] := by
    intro σ y0 hF H locs ls hP hS hl
    unfold mp_X12_isJump_17 at hF
    obtain ⟨h1, hF⟩ := hF
    exact W.zret (v := y0) hx hb hr h1.1 (fun t ht hW => ⟨⟨y0, σ, rfl, hF, (by unfold sm_B; rw [ht]; exact hP)⟩, hS.F ht⟩) hS.2.2 dX12_isJump_17
  have B16 : ∀ (σ : sm_S), mp_X12_isJump_16 K σ → sm_J p l e (headSpec wp_X12_isJump { frames := 0, cells := 0, slots := 0, locals := 0 }).room s m ([.int p1] : List Value).toArray below meth c (MQ below (va_Qi K (sm_B sm_wM D α) A) ([.int p1] : List Value).toArray s 0 0 A) D A 1 (sm_wM σ α) 16 [] [] := by
    intro σ hF H locs ls hP hS hl
    unfold mp_X12_isJump_16 at hF
    refine lv_iconst (v := 0) hx hb dX12_isJump_16 (by decide) ?_
    exact B17 σ 0 hF H locs ls hP hS (lv_sub hl [] rfl)
  unfold mp_X12_isJump at hF
  revert hP hS
  generalize hLo : ([] : List Loc) = locs
  suffices h9 : ∀ (H : Heap) (locs : List Loc), va_P D vwCl (sm_wM σ α) H → va_S A s.heap H locs → W p l e (headSpec wp_X12_isJump { frames := 0, cells := 0, slots := 0, locals := 0 }).room s m ([.int p1] : List Value).toArray below meth c H locs 0 0 (MQ below (va_Qi K (sm_B sm_wM D α) A) ([.int p1] : List Value).toArray s 0 0 A) (F0 m 0 ls []) from fun hP hS => h9 s.heap locs hP hS
  intro H locs hP hS
  refine lv_iload_n hx hb dX12_isJump_0 rfl (lv_at hl 0 rfl) ?_
  refine lv_bipush (v := 19) hx hb dX12_isJump_1 (by decide) ?_
  refine lv_icmp_lt (tgt := 16) hx hb dX12_isJump_3 (by decide) (fun h2 => ?_) (fun h2 => ?_)
  · replace hF := hF.1 h2
    exact B16 σ hF H locs ls hP hS (lv_sub hl [] rfl)
  · replace hF := hF.2 h2
    refine lv_iload_n hx hb dX12_isJump_6 rfl (lv_at hl 0 rfl) ?_
    refine lv_bipush (v := 25) hx hb dX12_isJump_7 (by decide) ?_
    refine lv_icmp_gt (tgt := 16) hx hb dX12_isJump_9 (by decide) (fun h3 => ?_) (fun h3 => ?_)
    · replace hF := hF.1 h3
      exact B16 σ hF H locs ls hP hS (lv_sub hl [] rfl)
    · replace hF := hF.2 h3
      refine lv_iconst (v := 1) hx hb dX12_isJump_12 (by decide) ?_
      refine lv_goto (tgt := 17) hx hb dX12_isJump_13 (by decide) ?_
      exact B17 σ 1 hF H locs ls hP hS (lv_sub hl [] rfl)
theorem dX12_jumpOf_0 : decode cX12_jumpOf 0 = .ok (.aload_n 0, 1) := by decide +kernel
theorem dX12_jumpOf_1 : decode cX12_jumpOf 1 = .ok (.getfield 10, 3) := by decide +kernel
theorem dX12_jumpOf_4 : decode cX12_jumpOf 4 = .ok (.aload_n 0, 1) := by decide +kernel
theorem dX12_jumpOf_5 : decode cX12_jumpOf 5 = .ok (.getfield 10, 3) := by decide +kernel
theorem dX12_jumpOf_8 : decode cX12_jumpOf 8 = .ok (.getfield 111, 3) := by decide +kernel
theorem dX12_jumpOf_11 : decode cX12_jumpOf 11 = .ok (.iload_n 1, 1) := by decide +kernel
theorem dX12_jumpOf_12 : decode cX12_jumpOf 12 = .ok (.iaload, 1) := by decide +kernel
theorem dX12_jumpOf_13 : decode cX12_jumpOf 13 = .ok (.bipush 21, 2) := by decide +kernel
theorem dX12_jumpOf_15 : decode cX12_jumpOf 15 = .ok (.if_icmp .ge 9, 3) := by decide +kernel
theorem dX12_jumpOf_18 : decode cX12_jumpOf 18 = .ok (.iload_n 1, 1) := by decide +kernel
theorem dX12_jumpOf_19 : decode cX12_jumpOf 19 = .ok (.iconst 2, 1) := by decide +kernel
theorem dX12_jumpOf_20 : decode cX12_jumpOf 20 = .ok (.iadd, 1) := by decide +kernel
theorem dX12_jumpOf_21 : decode cX12_jumpOf 21 = .ok (.goto 6, 3) := by decide +kernel
theorem dX12_jumpOf_24 : decode cX12_jumpOf 24 = .ok (.iload_n 1, 1) := by decide +kernel
theorem dX12_jumpOf_25 : decode cX12_jumpOf 25 = .ok (.iconst 1, 1) := by decide +kernel
theorem dX12_jumpOf_26 : decode cX12_jumpOf 26 = .ok (.iadd, 1) := by decide +kernel
theorem dX12_jumpOf_27 : decode cX12_jumpOf 27 = .ok (.invokevirtual 113, 3) := by decide +kernel
theorem dX12_jumpOf_30 : decode cX12_jumpOf 30 = .ok (.ireturn, 1) := by decide +kernel
def wp_X12_jumpOf : List Cond := .code yX12_jumpOf cX12_jumpOf 2 (some .int) :: ((([.initialized RX11, .instanceMethod yX11_two, .selects RX11 yX11_two yX11_two, .fieldLink RX12 10 "SteadyMachineModel" "image" "LSteadyMachineModel$Image;"] ++ wp_X11_two) ++ wsX110) ++ wsX120)
theorem wq_X12_jumpOf : wp_X12_jumpOf.all goodWord = true := wa_c rfl (wa_a (wa_a (wa_a (by decide +kernel) wq_X11_two) uq_X11) uq_X12)
theorem wt_X12_jumpOf : GoodIn lw_tbl wp_X12_jumpOf := wm_c (List.mem_of_getElem? (i := 1365) (by decide +kernel)) rfl (wm_a (wm_a (wm_a (goodIn_r _ [148, 1246, 77, 1490] (by decide +kernel) (by decide +kernel)) wt_X11_two) ut_X11) ut_X12)
theorem wg_X12_jumpOf_X11_two_113 : GoodIn wp_X12_jumpOf wp_X11_two := goodIn_sub (fun w h => List.mem_cons_of_mem _ (List.mem_append_left _ (List.mem_append_left _ (List.mem_append_right _ h)))) wq_X11_two
theorem wi_X12_jumpOf_X11 : ∀ w ∈ wsX110, w ∈ wp_X12_jumpOf := fun w h => List.mem_cons_of_mem _ (List.mem_append_left _ (List.mem_append_right _ h))
theorem wi_X12_jumpOf_X12 : ∀ w ∈ wsX120, w ∈ wp_X12_jumpOf := fun w h => List.mem_cons_of_mem _ (List.mem_append_right _ h)
set_option maxHeartbeats 4000000 in
set_option maxRecDepth 100000 in
theorem c_X12_jumpOf (l : Launch) (D : va_G) (sz t0 : Nat) (σ : sm_S) (α : sm_A) (p1 : Int32) (K : Int32 → sm_S → Prop) (hF : mp_X12_jumpOf σ p1 K) : Met l yX12_jumpOf wp_X12_jumpOf { frames := 1, cells := 0, slots := 0, locals := 21 } (sm_P sm_wM sm_tM 40 D sz t0 σ α [.ref (α.1 1), .int p1]) (va_Qi K (sm_B sm_wM D α) (sm_a α 40 sz)) 0 0 (sm_a α 40 sz) := by
  refine Met.ofW (cc := cX12_jumpOf) (maxL := 2) (ret := (some .int)) (by decide) rfl ?_
  intro p e s m args below meth c s₁ B hml hv
  obtain ⟨rfl, hsz, hP, hK, hD0, hE⟩ := hv
  have hx := B.exec
  have hb := B.bytes
  have hr := B.returns
  have hts := atoms_spec (ws := wp_X12_jumpOf) B.pre
  have hown : s.vm.findClass RX12 = some m.cls := findClass_of_methodNamed B.named
  have hlocks := B.notSynchronized
  subst hsz
  have hD : sm_D (sm_a α 40 s.heap.size) α 40 := hD0.own
  have hA : ∀ q : Nat, s.heap.size ≤ q → sm_a α 40 s.heap.size q := fun q h => Or.inr h
  generalize hAe : sm_a α 40 s.heap.size = A at hD hA hE ⊢
  have hS : va_S A s.heap s.heap [] := va_S.rf
  have in_X11 : ∀ w ∈ wsX110, w ∈ wp_X12_jumpOf := wi_X12_jumpOf_X11
  have in_X12 : ∀ w ∈ wsX120, w ∈ wp_X12_jumpOf := wi_X12_jumpOf_X12
  have k_0 := hts (.initialized RX11) (by decide +kernel)
  have k_1 := hts (.instanceMethod yX11_two) (by decide +kernel)
  have k_2 := hts (.selects RX11 yX11_two yX11_two) (by decide +kernel)
  have k_3 := hts (.fieldLink RX12 10 "SteadyMachineModel" "image" "LSteadyMachineModel$Image;") (by decide +kernel)
  have hl := lv_entry ([.ref (α.1 1), .int p1]) (n := 2) (Nat.le_of_ble_eq_true rfl)
  rw [lg_entry_eq]
  generalize (lg_sl ([.ref (α.1 1), .int p1]) ++ List.replicate (2 - (lg_sl ([.ref (α.1 1), .int p1])).length) Slot.unset).toArray = ls at hl ⊢
  have hl : lv_has ls 2 [(0, .ref (α.1 1)), (1, .int p1)] := hl
  have B27 : ∀ (σ : sm_S) (y1 : Int32), mp_X12_jumpOf_27 K σ y1 → sm_J p l e (headSpec wp_X12_jumpOf { frames := 1, cells := 0, slots := 0, locals := 21 }).room s m ([.ref (α.1 1), .int p1] : List Value).toArray below meth c (MQ below (va_Qi K (sm_B sm_wM D α) A) ([.ref (α.1 1), .int p1] : List Value).toArray s 0 0 A) D A 2 (sm_wM σ α) 27 [] [.int y1, .ref (α.1 0)] := by
    intro σ y1 hF H locs ls hP hS hl
    unfold mp_X12_jumpOf_27 at hF
    refine sm_nvi (As := [.int y1]) (rest := []) hP hK hD hE hS hA ⟨hx, hb, hml, hown, hts⟩ hl.1 (c_X11_two l D H.size t0 σ α y1 _ hF) ⟨va_cnB 1 hts wg_X12_jumpOf_X11_two_113 rfl rfl rfl (hE.1 (.methodLinkNest "SteadyMachineModel" 113 ⟨"SteadyMachineModel$Image", "two", "(I)I"⟩ "SteadyMachineModel") (by decide +kernel)) k_0 (by decide +kernel) ⟨Nat.le_of_ble_eq_true rfl, Nat.le_of_ble_eq_true rfl⟩, k_1, k_2⟩ (va_recv hK hP (ci := 11) (q0 := 0) rfl (sm_gX11 σ α)) rfl rfl (Nat.le_of_ble_eq_true rfl) dX12_jumpOf_27 ⟨Nat.zero_le _, Nat.zero_le _⟩ (fun r2 σ1 H locs hF hP hS => ?_)
    exact W.iret (v := r2) hx hb hr (fun t ht hW => ⟨⟨r2, σ1, rfl, hF, (by unfold sm_B; rw [ht]; exact hP)⟩, hS.F ht⟩) hS.2.2 dX12_jumpOf_30
  unfold mp_X12_jumpOf at hF
  revert hP hS
  generalize hLo : ([] : List Loc) = locs
  suffices h9 : ∀ (H : Heap) (locs : List Loc), va_P D vwCl (sm_wM σ α) H → va_S A s.heap H locs → W p l e (headSpec wp_X12_jumpOf { frames := 1, cells := 0, slots := 0, locals := 21 }).room s m ([.ref (α.1 1), .int p1] : List Value).toArray below meth c H locs 0 0 (MQ below (va_Qi K (sm_B sm_wM D α) A) ([.ref (α.1 1), .int p1] : List Value).toArray s 0 0 A) (F0 m 0 ls []) from fun hP hS => h9 s.heap locs hP hS
  intro H locs hP hS
  refine lv_aload_n hx hb dX12_jumpOf_0 rfl (lv_at hl 0 rfl) ?_
  refine va_get (D := D) (ci := 12) (v := .ref (α.1 0)) (C := RX12) (T := TX12) (N := 42) hx hb hts in_X12 hown hK hP 1 (sm_gX12 σ α) rfl 0 (by decide) k_3 (fun _ h9 => h9) rfl dX12_jumpOf_1 ?_
  refine lv_aload_n hx hb dX12_jumpOf_4 rfl (lv_at hl 0 rfl) ?_
  refine va_get (D := D) (ci := 12) (v := .ref (α.1 0)) (C := RX12) (T := TX12) (N := 42) hx hb hts in_X12 hown hK hP 1 (sm_gX12 σ α) rfl 0 (by decide) k_3 (fun _ h9 => h9) rfl dX12_jumpOf_5 ?_
  refine va_getN (D := D) (ci := 11) (v := .ref (α.1 3)) (C := RX11) (T := TX11) (N := 28) hx hb hts in_X11 hown hK hP 0 (sm_gX11 σ α) rfl 2 (by decide) (va_Nw.use rfl (hE.1 (.fieldLinkNest "SteadyMachineModel" 111 "SteadyMachineModel$Image" "image" "[I" "SteadyMachineModel") (by decide +kernel))) (fun _ h9 => h9) rfl dX12_jumpOf_8 ?_
  refine lv_iload_n hx hb dX12_jumpOf_11 rfl (lv_at hl 1 rfl) ?_
  obtain ⟨h3, hF⟩ := hF
  refine va_iald (n := (σ.2.2.1 3)) (f := (σ.2.2.2.1 3)) hx hb hK hP 3 1 (sm_aM3 σ α) (sm_yM3 α) h3 dX12_jumpOf_12 ?_
  refine lv_bipush (v := 21) hx hb dX12_jumpOf_13 (by decide) ?_
  refine lv_icmp_ge (tgt := 24) hx hb dX12_jumpOf_15 (by decide) (fun h4 => ?_) (fun h4 => ?_)
  · replace hF := hF.1 h4
    refine lv_iload_n hx hb dX12_jumpOf_24 rfl (lv_at hl 1 rfl) ?_
    refine lv_iconst (v := 1) hx hb dX12_jumpOf_25 (by decide) ?_
    refine lv_iadd hx hb dX12_jumpOf_26 ?_
    exact B27 σ (p1 + 1) hF H locs ls hP hS (lv_sub hl [] rfl)
  · replace hF := hF.2 h4
    refine lv_iload_n hx hb dX12_jumpOf_18 rfl (lv_at hl 1 rfl) ?_
    refine lv_iconst (v := 2) hx hb dX12_jumpOf_19 (by decide) ?_
    refine lv_iadd hx hb dX12_jumpOf_20 ?_
    refine lv_goto (tgt := 27) hx hb dX12_jumpOf_21 (by decide) ?_
    exact B27 σ (p1 + 2) hF H locs ls hP hS (lv_sub hl [] rfl)
theorem dX12_look_0 : decode cX12_look 0 = .ok (.iload_n 2, 1) := by decide +kernel
theorem dX12_look_1 : decode cX12_look 1 = .ok (.aload_n 0, 1) := by decide +kernel
theorem dX12_look_2 : decode cX12_look 2 = .ok (.getfield 10, 3) := by decide +kernel
theorem dX12_look_5 : decode cX12_look 5 = .ok (.getfield 30, 3) := by decide +kernel
theorem dX12_look_8 : decode cX12_look 8 = .ok (.iload_n 1, 1) := by decide +kernel
theorem dX12_look_9 : decode cX12_look 9 = .ok (.iaload, 1) := by decide +kernel
theorem dX12_look_10 : decode cX12_look 10 = .ok (.isub, 1) := by decide +kernel
theorem dX12_look_11 : decode cX12_look 11 = .ok (.istore_n 3, 1) := by decide +kernel
theorem dX12_look_12 : decode cX12_look 12 = .ok (.iconst 0, 1) := by decide +kernel
theorem dX12_look_13 : decode cX12_look 13 = .ok (.istore 4, 2) := by decide +kernel
theorem dX12_look_15 : decode cX12_look 15 = .ok (.iload 4, 2) := by decide +kernel
theorem dX12_look_17 : decode cX12_look 17 = .ok (.aload_n 0, 1) := by decide +kernel
theorem dX12_look_18 : decode cX12_look 18 = .ok (.getfield 10, 3) := by decide +kernel
theorem dX12_look_21 : decode cX12_look 21 = .ok (.getfield 116, 3) := by decide +kernel
theorem dX12_look_24 : decode cX12_look 24 = .ok (.iload_n 1, 1) := by decide +kernel
theorem dX12_look_25 : decode cX12_look 25 = .ok (.iaload, 1) := by decide +kernel
theorem dX12_look_26 : decode cX12_look 26 = .ok (.if_icmp .ge 108, 3) := by decide +kernel
theorem dX12_look_29 : decode cX12_look 29 = .ok (.aload_n 0, 1) := by decide +kernel
theorem dX12_look_30 : decode cX12_look 30 = .ok (.getfield 10, 3) := by decide +kernel
theorem dX12_look_33 : decode cX12_look 33 = .ok (.getfield 119, 3) := by decide +kernel
theorem dX12_look_36 : decode cX12_look 36 = .ok (.iload_n 1, 1) := by decide +kernel
theorem dX12_look_37 : decode cX12_look 37 = .ok (.iaload, 1) := by decide +kernel
theorem dX12_look_38 : decode cX12_look 38 = .ok (.bipush 7, 2) := by decide +kernel
theorem dX12_look_40 : decode cX12_look 40 = .ok (.iload 4, 2) := by decide +kernel
theorem dX12_look_42 : decode cX12_look 42 = .ok (.imul, 1) := by decide +kernel
theorem dX12_look_43 : decode cX12_look 43 = .ok (.iadd, 1) := by decide +kernel
theorem dX12_look_44 : decode cX12_look 44 = .ok (.istore 5, 2) := by decide +kernel
theorem dX12_look_46 : decode cX12_look 46 = .ok (.aload_n 0, 1) := by decide +kernel
theorem dX12_look_47 : decode cX12_look 47 = .ok (.getfield 10, 3) := by decide +kernel
theorem dX12_look_50 : decode cX12_look 50 = .ok (.iload 5, 2) := by decide +kernel
theorem dX12_look_52 : decode cX12_look 52 = .ok (.invokevirtual 113, 3) := by decide +kernel
theorem dX12_look_55 : decode cX12_look 55 = .ok (.iload_n 3, 1) := by decide +kernel
theorem dX12_look_56 : decode cX12_look 56 = .ok (.if_icmp .gt 72, 3) := by decide +kernel
theorem dX12_look_59 : decode cX12_look 59 = .ok (.iload_n 3, 1) := by decide +kernel
theorem dX12_look_60 : decode cX12_look 60 = .ok (.aload_n 0, 1) := by decide +kernel
theorem dX12_look_61 : decode cX12_look 61 = .ok (.getfield 10, 3) := by decide +kernel
theorem dX12_look_64 : decode cX12_look 64 = .ok (.iload 5, 2) := by decide +kernel
theorem dX12_look_66 : decode cX12_look 66 = .ok (.iconst 2, 1) := by decide +kernel
theorem dX12_look_67 : decode cX12_look 67 = .ok (.iadd, 1) := by decide +kernel
theorem dX12_look_68 : decode cX12_look 68 = .ok (.invokevirtual 113, 3) := by decide +kernel
theorem dX12_look_71 : decode cX12_look 71 = .ok (.if_icmp .ge 57, 3) := by decide +kernel
theorem dX12_look_74 : decode cX12_look 74 = .ok (.aload_n 0, 1) := by decide +kernel
theorem dX12_look_75 : decode cX12_look 75 = .ok (.iload_n 1, 1) := by decide +kernel
theorem dX12_look_76 : decode cX12_look 76 = .ok (.iload_n 2, 1) := by decide +kernel
theorem dX12_look_77 : decode cX12_look 77 = .ok (.invokevirtual 122, 3) := by decide +kernel
theorem dX12_look_80 : decode cX12_look 80 = .ok (.aload_n 0, 1) := by decide +kernel
theorem dX12_look_81 : decode cX12_look 81 = .ok (.iconst 0, 1) := by decide +kernel
theorem dX12_look_82 : decode cX12_look 82 = .ok (.putfield 36, 3) := by decide +kernel
theorem dX12_look_85 : decode cX12_look 85 = .ok (.aload_n 0, 1) := by decide +kernel
theorem dX12_look_86 : decode cX12_look 86 = .ok (.iload_n 1, 1) := by decide +kernel
theorem dX12_look_87 : decode cX12_look 87 = .ok (.iconst 1, 1) := by decide +kernel
theorem dX12_look_88 : decode cX12_look 88 = .ok (.aload_n 0, 1) := by decide +kernel
theorem dX12_look_89 : decode cX12_look 89 = .ok (.getfield 10, 3) := by decide +kernel
theorem dX12_look_92 : decode cX12_look 92 = .ok (.getfield 111, 3) := by decide +kernel
theorem dX12_look_95 : decode cX12_look 95 = .ok (.iload 5, 2) := by decide +kernel
theorem dX12_look_97 : decode cX12_look 97 = .ok (.iconst 4, 1) := by decide +kernel
theorem dX12_look_98 : decode cX12_look 98 = .ok (.iadd, 1) := by decide +kernel
theorem dX12_look_99 : decode cX12_look 99 = .ok (.iaload, 1) := by decide +kernel
theorem dX12_look_100 : decode cX12_look 100 = .ok (.iadd, 1) := by decide +kernel
theorem dX12_look_101 : decode cX12_look 101 = .ok (.invokevirtual 80, 3) := by decide +kernel
theorem dX12_look_104 : decode cX12_look 104 = .ok (.ifCond .eq 22, 3) := by decide +kernel
theorem dX12_look_107 : decode cX12_look 107 = .ok (.aload_n 0, 1) := by decide +kernel
theorem dX12_look_108 : decode cX12_look 108 = .ok (.iload_n 1, 1) := by decide +kernel
theorem dX12_look_109 : decode cX12_look 109 = .ok (.aload_n 0, 1) := by decide +kernel
theorem dX12_look_110 : decode cX12_look 110 = .ok (.getfield 10, 3) := by decide +kernel
theorem dX12_look_113 : decode cX12_look 113 = .ok (.iload 5, 2) := by decide +kernel
theorem dX12_look_115 : decode cX12_look 115 = .ok (.iconst 5, 1) := by decide +kernel
theorem dX12_look_116 : decode cX12_look 116 = .ok (.iadd, 1) := by decide +kernel
theorem dX12_look_117 : decode cX12_look 117 = .ok (.invokevirtual 113, 3) := by decide +kernel
theorem dX12_look_120 : decode cX12_look 120 = .ok (.invokevirtual 126, 3) := by decide +kernel
theorem dX12_look_123 : decode cX12_look 123 = .ok (.ifCond .ne 5, 3) := by decide +kernel
theorem dX12_look_126 : decode cX12_look 126 = .ok (.iconst 0, 1) := by decide +kernel
theorem dX12_look_127 : decode cX12_look 127 = .ok (.ireturn, 1) := by decide +kernel
theorem dX12_look_128 : decode cX12_look 128 = .ok (.iinc 4 1, 3) := by decide +kernel
theorem dX12_look_131 : decode cX12_look 131 = .ok (.goto (-116), 3) := by decide +kernel
theorem dX12_look_134 : decode cX12_look 134 = .ok (.aload_n 0, 1) := by decide +kernel
theorem dX12_look_135 : decode cX12_look 135 = .ok (.iload_n 1, 1) := by decide +kernel
theorem dX12_look_136 : decode cX12_look 136 = .ok (.iload_n 2, 1) := by decide +kernel
theorem dX12_look_137 : decode cX12_look 137 = .ok (.invokevirtual 122, 3) := by decide +kernel
theorem dX12_look_140 : decode cX12_look 140 = .ok (.aload_n 0, 1) := by decide +kernel
theorem dX12_look_141 : decode cX12_look 141 = .ok (.getfield 10, 3) := by decide +kernel
theorem dX12_look_144 : decode cX12_look 144 = .ok (.getfield 111, 3) := by decide +kernel
theorem dX12_look_147 : decode cX12_look 147 = .ok (.iload_n 2, 1) := by decide +kernel
theorem dX12_look_148 : decode cX12_look 148 = .ok (.iaload, 1) := by decide +kernel
theorem dX12_look_149 : decode cX12_look 149 = .ok (.istore 4, 2) := by decide +kernel
theorem dX12_look_151 : decode cX12_look 151 = .ok (.aload_n 0, 1) := by decide +kernel
theorem dX12_look_152 : decode cX12_look 152 = .ok (.iload_n 1, 1) := by decide +kernel
theorem dX12_look_153 : decode cX12_look 153 = .ok (.iload 4, 2) := by decide +kernel
theorem dX12_look_155 : decode cX12_look 155 = .ok (.aload_n 0, 1) := by decide +kernel
theorem dX12_look_156 : decode cX12_look 156 = .ok (.getfield 10, 3) := by decide +kernel
theorem dX12_look_159 : decode cX12_look 159 = .ok (.getfield 111, 3) := by decide +kernel
theorem dX12_look_162 : decode cX12_look 162 = .ok (.iload_n 2, 1) := by decide +kernel
theorem dX12_look_163 : decode cX12_look 163 = .ok (.iconst 1, 1) := by decide +kernel
theorem dX12_look_164 : decode cX12_look 164 = .ok (.iadd, 1) := by decide +kernel
theorem dX12_look_165 : decode cX12_look 165 = .ok (.sipush 8000, 3) := by decide +kernel
theorem dX12_look_168 : decode cX12_look 168 = .ok (.if_icmp .ge 9, 3) := by decide +kernel
theorem dX12_look_171 : decode cX12_look 171 = .ok (.iload_n 2, 1) := by decide +kernel
theorem dX12_look_172 : decode cX12_look 172 = .ok (.iconst 1, 1) := by decide +kernel
theorem dX12_look_173 : decode cX12_look 173 = .ok (.iadd, 1) := by decide +kernel
theorem dX12_look_174 : decode cX12_look 174 = .ok (.goto 4, 3) := by decide +kernel
theorem dX12_look_177 : decode cX12_look 177 = .ok (.iload_n 2, 1) := by decide +kernel
theorem dX12_look_178 : decode cX12_look 178 = .ok (.iaload, 1) := by decide +kernel
theorem dX12_look_179 : decode cX12_look 179 = .ok (.aload_n 0, 1) := by decide +kernel
theorem dX12_look_180 : decode cX12_look 180 = .ok (.getfield 10, 3) := by decide +kernel
theorem dX12_look_183 : decode cX12_look 183 = .ok (.getfield 111, 3) := by decide +kernel
theorem dX12_look_186 : decode cX12_look 186 = .ok (.iload_n 2, 1) := by decide +kernel
theorem dX12_look_187 : decode cX12_look 187 = .ok (.iconst 2, 1) := by decide +kernel
theorem dX12_look_188 : decode cX12_look 188 = .ok (.iadd, 1) := by decide +kernel
theorem dX12_look_189 : decode cX12_look 189 = .ok (.sipush 8000, 3) := by decide +kernel
theorem dX12_look_192 : decode cX12_look 192 = .ok (.if_icmp .ge 9, 3) := by decide +kernel
theorem dX12_look_195 : decode cX12_look 195 = .ok (.iload_n 2, 1) := by decide +kernel
theorem dX12_look_196 : decode cX12_look 196 = .ok (.iconst 2, 1) := by decide +kernel
theorem dX12_look_197 : decode cX12_look 197 = .ok (.iadd, 1) := by decide +kernel
theorem dX12_look_198 : decode cX12_look 198 = .ok (.goto 4, 3) := by decide +kernel
theorem dX12_look_201 : decode cX12_look 201 = .ok (.iload_n 2, 1) := by decide +kernel
theorem dX12_look_202 : decode cX12_look 202 = .ok (.iaload, 1) := by decide +kernel
theorem dX12_look_203 : decode cX12_look 203 = .ok (.invokevirtual 129, 3) := by decide +kernel
theorem dX12_look_206 : decode cX12_look 206 = .ok (.ifCond .ne 5, 3) := by decide +kernel
theorem dX12_look_209 : decode cX12_look 209 = .ok (.iconst 0, 1) := by decide +kernel
theorem dX12_look_210 : decode cX12_look 210 = .ok (.ireturn, 1) := by decide +kernel
theorem dX12_look_211 : decode cX12_look 211 = .ok (.iload 4, 2) := by decide +kernel
theorem dX12_look_213 : decode cX12_look 213 = .ok (.bipush 25, 2) := by decide +kernel
theorem dX12_look_215 : decode cX12_look 215 = .ok (.if_icmp .eq 24, 3) := by decide +kernel
theorem dX12_look_218 : decode cX12_look 218 = .ok (.iload 4, 2) := by decide +kernel
theorem dX12_look_220 : decode cX12_look 220 = .ok (.bipush 37, 2) := by decide +kernel
theorem dX12_look_222 : decode cX12_look 222 = .ok (.if_icmp .eq 17, 3) := by decide +kernel
theorem dX12_look_225 : decode cX12_look 225 = .ok (.iload 4, 2) := by decide +kernel
theorem dX12_look_227 : decode cX12_look 227 = .ok (.bipush 38, 2) := by decide +kernel
theorem dX12_look_229 : decode cX12_look 229 = .ok (.if_icmp .eq 10, 3) := by decide +kernel
theorem dX12_look_232 : decode cX12_look 232 = .ok (.iload 4, 2) := by decide +kernel
theorem dX12_look_234 : decode cX12_look 234 = .ok (.bipush 39, 2) := by decide +kernel
theorem dX12_look_236 : decode cX12_look 236 = .ok (.if_icmp .ne 7, 3) := by decide +kernel
theorem dX12_look_239 : decode cX12_look 239 = .ok (.iconst 1, 1) := by decide +kernel
theorem dX12_look_240 : decode cX12_look 240 = .ok (.goto 4, 3) := by decide +kernel
theorem dX12_look_243 : decode cX12_look 243 = .ok (.iconst 0, 1) := by decide +kernel
theorem dX12_look_244 : decode cX12_look 244 = .ok (.istore 5, 2) := by decide +kernel
theorem dX12_look_246 : decode cX12_look 246 = .ok (.iload 5, 2) := by decide +kernel
theorem dX12_look_248 : decode cX12_look 248 = .ok (.ifCond .ne 18, 3) := by decide +kernel
theorem dX12_look_251 : decode cX12_look 251 = .ok (.aload_n 0, 1) := by decide +kernel
theorem dX12_look_252 : decode cX12_look 252 = .ok (.iload_n 1, 1) := by decide +kernel
theorem dX12_look_253 : decode cX12_look 253 = .ok (.iload_n 3, 1) := by decide +kernel
theorem dX12_look_254 : decode cX12_look 254 = .ok (.iload 4, 2) := by decide +kernel
theorem dX12_look_256 : decode cX12_look 256 = .ok (.invokestatic 133, 3) := by decide +kernel
theorem dX12_look_259 : decode cX12_look 259 = .ok (.iadd, 1) := by decide +kernel
theorem dX12_look_260 : decode cX12_look 260 = .ok (.invokevirtual 126, 3) := by decide +kernel
theorem dX12_look_263 : decode cX12_look 263 = .ok (.ifCond .eq 28, 3) := by decide +kernel
theorem dX12_look_266 : decode cX12_look 266 = .ok (.iload 4, 2) := by decide +kernel
theorem dX12_look_268 : decode cX12_look 268 = .ok (.invokestatic 136, 3) := by decide +kernel
theorem dX12_look_271 : decode cX12_look 271 = .ok (.ifCond .eq 16, 3) := by decide +kernel
theorem dX12_look_274 : decode cX12_look 274 = .ok (.aload_n 0, 1) := by decide +kernel
theorem dX12_look_275 : decode cX12_look 275 = .ok (.iload_n 1, 1) := by decide +kernel
theorem dX12_look_276 : decode cX12_look 276 = .ok (.aload_n 0, 1) := by decide +kernel
theorem dX12_look_277 : decode cX12_look 277 = .ok (.iload_n 2, 1) := by decide +kernel
theorem dX12_look_278 : decode cX12_look 278 = .ok (.invokevirtual 139, 3) := by decide +kernel
theorem dX12_look_281 : decode cX12_look 281 = .ok (.invokevirtual 126, 3) := by decide +kernel
theorem dX12_look_284 : decode cX12_look 284 = .ok (.ifCond .eq 7, 3) := by decide +kernel
theorem dX12_look_287 : decode cX12_look 287 = .ok (.iconst 1, 1) := by decide +kernel
theorem dX12_look_288 : decode cX12_look 288 = .ok (.goto 4, 3) := by decide +kernel
theorem dX12_look_291 : decode cX12_look 291 = .ok (.iconst 0, 1) := by decide +kernel
theorem dX12_look_292 : decode cX12_look 292 = .ok (.ireturn, 1) := by decide +kernel
def wp_X12_look : List Cond := .code yX12_look cX12_look 6 (some .boolean) :: (((((((((([.initialized RX11, .static yX11_wide, .fieldLink RX12 10 "SteadyMachineModel" "image" "LSteadyMachineModel$Image;", .instanceMethod yX11_two, .selects RX11 yX11_two yX11_two, .fieldLink RX12 36 "SteadyMachineModel" "top" "I"] ++ (va_wsS RX12 136 yX12_isJump wp_X12_isJump)) ++ (wsV RX12 139 RX12 yX12_jumpOf wp_X12_jumpOf)) ++ (wsV RX12 126 RX12 yX12_come wp_X12_come)) ++ wp_X11_wide) ++ (wsV RX12 129 RX12 yX12_fits wp_X12_fits)) ++ (wsV RX12 122 RX12 yX12_takeUp wp_X12_takeUp)) ++ wp_X11_two) ++ (wsV RX12 80 RX12 yX12_push wp_X12_push)) ++ wsX110) ++ wsX120)
theorem wq_X12_look : wp_X12_look.all goodWord = true := wa_c rfl (wa_a (wa_a (wa_a (wa_a (wa_a (wa_a (wa_a (wa_a (wa_a (wa_a (by decide +kernel) (wa_S wq_X12_isJump)) (wa_V wq_X12_jumpOf)) (wa_V wq_X12_come)) wq_X11_wide) (wa_V wq_X12_fits)) (wa_V wq_X12_takeUp)) wq_X11_two) (wa_V wq_X12_push)) uq_X11) uq_X12)
set_option maxRecDepth 200000 in
theorem wt_X12_look : GoodIn lw_tbl wp_X12_look := wm_c (List.mem_of_getElem? (i := 1305) rfl) rfl (wm_a (wm_a (wm_a (wm_a (wm_a (wm_a (wm_a (wm_a (wm_a (wm_a (goodIn_r _ [148, 1253, 1490, 1246, 77, 1495] (by decide +kernel) (by decide +kernel)) (wm_a (goodIn_r _ [1359, 1360, 147] (by decide +kernel) (by decide +kernel)) wt_X12_isJump)) (wm_a (goodIn_r _ [1362, 1364, 101, 147] (by decide +kernel) (by decide +kernel)) wt_X12_jumpOf)) (wm_a (goodIn_r _ [1280, 1282, 85, 147] (by decide +kernel) (by decide +kernel)) wt_X12_come)) wt_X11_wide) (wm_a (goodIn_r _ [1315, 1317, 91, 147] (by decide +kernel) (by decide +kernel)) wt_X12_fits)) (wm_a (goodIn_r _ [1307, 1309, 89, 147] (by decide +kernel) (by decide +kernel)) wt_X12_takeUp)) wt_X11_two) (wm_a (goodIn_r _ [1311, 1313, 90, 147] (by decide +kernel) (by decide +kernel)) wt_X12_push)) ut_X11) ut_X12)
theorem wg_X12_look_X12_isJump_136 : GoodIn wp_X12_look (va_wsS RX12 136 yX12_isJump wp_X12_isJump) := goodIn_sub (fun w h => List.mem_cons_of_mem _ (List.mem_append_left _ (List.mem_append_left _ (List.mem_append_left _ (List.mem_append_left _ (List.mem_append_left _ (List.mem_append_left _ (List.mem_append_left _ (List.mem_append_left _ (List.mem_append_left _ (List.mem_append_right _ h))))))))))) (wa_S wq_X12_isJump)
theorem wg_X12_look_X12_jumpOf_139 : GoodIn wp_X12_look (wsV RX12 139 RX12 yX12_jumpOf wp_X12_jumpOf) := goodIn_sub (fun w h => List.mem_cons_of_mem _ (List.mem_append_left _ (List.mem_append_left _ (List.mem_append_left _ (List.mem_append_left _ (List.mem_append_left _ (List.mem_append_left _ (List.mem_append_left _ (List.mem_append_left _ (List.mem_append_right _ h)))))))))) (wa_V wq_X12_jumpOf)
theorem wg_X12_look_X12_come_126 : GoodIn wp_X12_look (wsV RX12 126 RX12 yX12_come wp_X12_come) := goodIn_sub (fun w h => List.mem_cons_of_mem _ (List.mem_append_left _ (List.mem_append_left _ (List.mem_append_left _ (List.mem_append_left _ (List.mem_append_left _ (List.mem_append_left _ (List.mem_append_left _ (List.mem_append_right _ h))))))))) (wa_V wq_X12_come)
theorem wg_X12_look_X11_wide_133 : GoodIn wp_X12_look wp_X11_wide := goodIn_sub (fun w h => List.mem_cons_of_mem _ (List.mem_append_left _ (List.mem_append_left _ (List.mem_append_left _ (List.mem_append_left _ (List.mem_append_left _ (List.mem_append_left _ (List.mem_append_right _ h)))))))) wq_X11_wide
theorem wg_X12_look_X12_fits_129 : GoodIn wp_X12_look (wsV RX12 129 RX12 yX12_fits wp_X12_fits) := goodIn_sub (fun w h => List.mem_cons_of_mem _ (List.mem_append_left _ (List.mem_append_left _ (List.mem_append_left _ (List.mem_append_left _ (List.mem_append_left _ (List.mem_append_right _ h))))))) (wa_V wq_X12_fits)
theorem wg_X12_look_X12_takeUp_122 : GoodIn wp_X12_look (wsV RX12 122 RX12 yX12_takeUp wp_X12_takeUp) := goodIn_sub (fun w h => List.mem_cons_of_mem _ (List.mem_append_left _ (List.mem_append_left _ (List.mem_append_left _ (List.mem_append_left _ (List.mem_append_right _ h)))))) (wa_V wq_X12_takeUp)
theorem wg_X12_look_X11_two_113 : GoodIn wp_X12_look wp_X11_two := goodIn_sub (fun w h => List.mem_cons_of_mem _ (List.mem_append_left _ (List.mem_append_left _ (List.mem_append_left _ (List.mem_append_right _ h))))) wq_X11_two
theorem wg_X12_look_X12_push_80 : GoodIn wp_X12_look (wsV RX12 80 RX12 yX12_push wp_X12_push) := goodIn_sub (fun w h => List.mem_cons_of_mem _ (List.mem_append_left _ (List.mem_append_left _ (List.mem_append_right _ h)))) (wa_V wq_X12_push)
theorem wi_X12_look_X11 : ∀ w ∈ wsX110, w ∈ wp_X12_look := fun w h => List.mem_cons_of_mem _ (List.mem_append_left _ (List.mem_append_right _ h))
theorem wi_X12_look_X12 : ∀ w ∈ wsX120, w ∈ wp_X12_look := fun w h => List.mem_cons_of_mem _ (List.mem_append_right _ h)
set_option maxHeartbeats 4000000 in
set_option maxRecDepth 100000 in
theorem c_X12_look (l : Launch) (D : va_G) (sz t0 : Nat) (σ : sm_S) (α : sm_A) (p1 : Int32) (p2 : Int32) (K : Int32 → sm_S → Prop) (hF : mp_X12_look σ p1 p2 K) : Met l yX12_look wp_X12_look { frames := 6, cells := 0, slots := 0, locals := 139 } (sm_P sm_wM sm_tM 40 D sz t0 σ α [.ref (α.1 1), .int p1, .int p2]) (va_Qi K (sm_B sm_wM D α) (sm_a α 40 sz)) 0 0 (sm_a α 40 sz) := by
  refine Met.ofW (cc := cX12_look) (maxL := 6) (ret := (some .boolean)) (by decide) rfl ?_
  intro p e s m args below meth c s₁ B hml hv
  obtain ⟨rfl, hsz, hP, hK, hD0, hE⟩ := hv
  have hx := B.exec
  have hb := B.bytes
  have hr := B.returns
  have hts := atoms_spec (ws := wp_X12_look) B.pre
  have hown : s.vm.findClass RX12 = some m.cls := findClass_of_methodNamed B.named
  have hlocks := B.notSynchronized
  subst hsz
  have hD : sm_D (sm_a α 40 s.heap.size) α 40 := hD0.own
  have hA : ∀ q : Nat, s.heap.size ≤ q → sm_a α 40 s.heap.size q := fun q h => Or.inr h
  generalize hAe : sm_a α 40 s.heap.size = A at hD hA hE ⊢
  have hS : va_S A s.heap s.heap [] := va_S.rf
  have in_X11 : ∀ w ∈ wsX110, w ∈ wp_X12_look := wi_X12_look_X11
  have in_X12 : ∀ w ∈ wsX120, w ∈ wp_X12_look := wi_X12_look_X12
  have k_0 := hts (.initialized RX11) (by decide +kernel)
  have k_1 := hts (.static yX11_wide) (by decide +kernel)
  have k_2 := hts (.fieldLink RX12 10 "SteadyMachineModel" "image" "LSteadyMachineModel$Image;") (by decide +kernel)
  have k_3 := hts (.instanceMethod yX11_two) (by decide +kernel)
  have k_4 := hts (.selects RX11 yX11_two yX11_two) (by decide +kernel)
  have k_5 := hts (.fieldLink RX12 36 "SteadyMachineModel" "top" "I") (by decide +kernel)
  have hl := lv_entry ([.ref (α.1 1), .int p1, .int p2]) (n := 6) (Nat.le_of_ble_eq_true rfl)
  rw [lg_entry_eq]
  generalize (lg_sl ([.ref (α.1 1), .int p1, .int p2]) ++ List.replicate (6 - (lg_sl ([.ref (α.1 1), .int p1, .int p2])).length) Slot.unset).toArray = ls at hl ⊢
  have hl : lv_has ls 6 [(0, .ref (α.1 1)), (1, .int p1), (2, .int p2)] := hl
  have B292 : ∀ (σ : sm_S) (y0 : Int32), mp_X12_look_292 K σ y0 → sm_J p l e (headSpec wp_X12_look { frames := 6, cells := 0, slots := 0, locals := 139 }).room s m ([.ref (α.1 1), .int p1, .int p2] : List Value).toArray below meth c (MQ below (va_Qi K (sm_B sm_wM D α) A) ([.ref (α.1 1), .int p1, .int p2] : List Value).toArray s 0 0 A) D A 6 (sm_wM σ α) 292 [] [.int y0] := by
    intro σ y0 hF H locs ls hP hS hl
    unfold mp_X12_look_292 at hF
    obtain ⟨h1, hF⟩ := hF
    exact W.zret (v := y0) hx hb hr h1.1 (fun t ht hW => ⟨⟨y0, σ, rfl, hF, (by unfold sm_B; rw [ht]; exact hP)⟩, hS.F ht⟩) hS.2.2 dX12_look_292
  have B291 : ∀ (σ : sm_S), mp_X12_look_291 K σ → sm_J p l e (headSpec wp_X12_look { frames := 6, cells := 0, slots := 0, locals := 139 }).room s m ([.ref (α.1 1), .int p1, .int p2] : List Value).toArray below meth c (MQ below (va_Qi K (sm_B sm_wM D α) A) ([.ref (α.1 1), .int p1, .int p2] : List Value).toArray s 0 0 A) D A 6 (sm_wM σ α) 291 [] [] := by
    intro σ hF H locs ls hP hS hl
    unfold mp_X12_look_291 at hF
    refine lv_iconst (v := 0) hx hb dX12_look_291 (by decide) ?_
    exact B292 σ 0 hF H locs ls hP hS (lv_sub hl [] rfl)
  have B287 : ∀ (σ : sm_S), mp_X12_look_287 K σ → sm_J p l e (headSpec wp_X12_look { frames := 6, cells := 0, slots := 0, locals := 139 }).room s m ([.ref (α.1 1), .int p1, .int p2] : List Value).toArray below meth c (MQ below (va_Qi K (sm_B sm_wM D α) A) ([.ref (α.1 1), .int p1, .int p2] : List Value).toArray s 0 0 A) D A 6 (sm_wM σ α) 287 [] [] := by
    intro σ hF H locs ls hP hS hl
    unfold mp_X12_look_287 at hF
    refine lv_iconst (v := 1) hx hb dX12_look_287 (by decide) ?_
    refine lv_goto (tgt := 292) hx hb dX12_look_288 (by decide) ?_
    exact B292 σ 1 hF H locs ls hP hS (lv_sub hl [] rfl)
  have B266 : ∀ (σ : sm_S) (x1 : Int32) (x2 : Int32) (x4 : Int32), mp_X12_look_266 K σ x1 x2 x4 → sm_J p l e (headSpec wp_X12_look { frames := 6, cells := 0, slots := 0, locals := 139 }).room s m ([.ref (α.1 1), .int p1, .int p2] : List Value).toArray below meth c (MQ below (va_Qi K (sm_B sm_wM D α) A) ([.ref (α.1 1), .int p1, .int p2] : List Value).toArray s 0 0 A) D A 6 (sm_wM σ α) 266 [(0, .ref (α.1 1)), (1, .int x1), (2, .int x2), (4, .int x4)] [] := by
    intro σ x1 x2 x4 hF H locs ls hP hS hl
    unfold mp_X12_look_266 at hF
    refine lv_iload hx hb dX12_look_266 (lv_at hl 3 rfl) ?_
    refine sm_si (As := [.int x4]) (rest := []) hP hK hD hE hS hA ⟨hx, hb, hml, hown, hts⟩ hl.1 (c_X12_isJump l D H.size t0 σ α x4 _ hF) (va_cwS 1 hts wg_X12_look_X12_isJump_136 rfl rfl rfl (by decide +kernel) ⟨Nat.le_of_ble_eq_true rfl, Nat.le_of_ble_eq_true rfl⟩) rfl rfl (Nat.le_of_ble_eq_true rfl) dX12_look_268 ⟨Nat.zero_le _, Nat.zero_le _⟩ (fun r3 σ2 H locs hF hP hS => ?_)
    refine lv_if_eq (tgt := 287) hx hb dX12_look_271 (by decide) (fun h4 => ?_) (fun h4 => ?_)
    · replace hF := hF.1 h4
      exact B287 σ2 hF H locs ls hP hS (lv_sub hl [] rfl)
    · replace hF := hF.2 h4
      refine lv_aload_n hx hb dX12_look_274 rfl (lv_at hl 0 rfl) ?_
      refine lv_iload_n hx hb dX12_look_275 rfl (lv_at hl 1 rfl) ?_
      refine lv_aload_n hx hb dX12_look_276 rfl (lv_at hl 0 rfl) ?_
      refine lv_iload_n hx hb dX12_look_277 rfl (lv_at hl 2 rfl) ?_
      refine sm_vi (As := [.int x2]) (rest := [.int x1, .ref (α.1 1)]) hP hK hD hE hS hA ⟨hx, hb, hml, hown, hts⟩ hl.1 (c_X12_jumpOf l D H.size t0 σ2 α x2 _ hF) (cwV 1 hts wg_X12_look_X12_jumpOf_139 rfl rfl rfl (by decide +kernel) ⟨Nat.le_of_ble_eq_true rfl, Nat.le_of_ble_eq_true rfl⟩) (va_recv hK hP (ci := 12) (q0 := 1) rfl (sm_gX12 σ2 α)) rfl rfl (Nat.le_of_ble_eq_true rfl) dX12_look_278 ⟨Nat.zero_le _, Nat.zero_le _⟩ (fun r6 σ5 H locs hF hP hS => ?_)
      refine sm_vi (As := [.int x1, .int r6]) (rest := []) hP hK hD hE hS hA ⟨hx, hb, hml, hown, hts⟩ hl.1 (c_X12_come l D H.size t0 σ5 α x1 r6 _ hF) (cwV 2 hts wg_X12_look_X12_come_126 rfl rfl rfl (by decide +kernel) ⟨Nat.le_of_ble_eq_true rfl, Nat.le_of_ble_eq_true rfl⟩) (va_recv hK hP (ci := 12) (q0 := 1) rfl (sm_gX12 σ5 α)) rfl rfl (Nat.le_of_ble_eq_true rfl) dX12_look_281 ⟨Nat.zero_le _, Nat.zero_le _⟩ (fun r8 σ7 H locs hF hP hS => ?_)
      refine lv_if_eq (tgt := 291) hx hb dX12_look_284 (by decide) (fun h9 => ?_) (fun h9 => ?_)
      · replace hF := hF.1 h9
        exact B291 σ7 hF H locs ls hP hS (lv_sub hl [] rfl)
      · replace hF := hF.2 h9
        exact B287 σ7 hF H locs ls hP hS (lv_sub hl [] rfl)
  have B244 : ∀ (σ : sm_S) (x1 : Int32) (x2 : Int32) (x3 : Int32) (x4 : Int32) (y0 : Int32), mp_X12_look_244 K σ x1 x2 x3 x4 y0 → sm_J p l e (headSpec wp_X12_look { frames := 6, cells := 0, slots := 0, locals := 139 }).room s m ([.ref (α.1 1), .int p1, .int p2] : List Value).toArray below meth c (MQ below (va_Qi K (sm_B sm_wM D α) A) ([.ref (α.1 1), .int p1, .int p2] : List Value).toArray s 0 0 A) D A 6 (sm_wM σ α) 244 [(0, .ref (α.1 1)), (1, .int x1), (2, .int x2), (3, .int x3), (4, .int x4)] [.int y0] := by
    intro σ x1 x2 x3 x4 y0 hF H locs ls hP hS hl
    unfold mp_X12_look_244 at hF
    refine lv_istore (lv' := [(5, .int y0), (0, .ref (α.1 1)), (1, .int x1), (2, .int x2), (3, .int x3), (4, .int x4)]) hx hb dX12_look_244 hl (by decide) rfl (fun ls hl => ?_)
    refine lv_iload hx hb dX12_look_246 (lv_at hl 0 rfl) ?_
    refine lv_if_ne (tgt := 266) hx hb dX12_look_248 (by decide) (fun h10 => ?_) (fun h10 => ?_)
    · replace hF := hF.1 h10
      exact B266 σ x1 x2 x4 hF H locs ls hP hS (lv_sub hl [1, 2, 3, 5] rfl)
    · replace hF := hF.2 h10
      refine lv_aload_n hx hb dX12_look_251 rfl (lv_at hl 1 rfl) ?_
      refine lv_iload_n hx hb dX12_look_252 rfl (lv_at hl 2 rfl) ?_
      refine lv_iload_n hx hb dX12_look_253 rfl (lv_at hl 4 rfl) ?_
      refine lv_iload hx hb dX12_look_254 (lv_at hl 5 rfl) ?_
      refine sm_nsi (As := [.int x4]) (rest := [.int x3, .int x1, .ref (α.1 1)]) hP hK hD hE hS hA ⟨hx, hb, hml, hown, hts⟩ hl.1 (c_X11_wide l D H.size t0 σ α x4 _ hF) ⟨va_cnB 1 hts wg_X12_look_X11_wide_133 rfl rfl rfl (hE.1 (.methodLinkNest "SteadyMachineModel" 133 ⟨"SteadyMachineModel$Image", "wide", "(I)I"⟩ "SteadyMachineModel") (by decide +kernel)) k_0 (by decide +kernel) ⟨Nat.le_of_ble_eq_true rfl, Nat.le_of_ble_eq_true rfl⟩, k_1, trivial⟩ rfl rfl (Nat.le_of_ble_eq_true rfl) dX12_look_256 ⟨Nat.zero_le _, Nat.zero_le _⟩ (fun r12 σ11 H locs hF hP hS => ?_)
      refine lv_iadd hx hb dX12_look_259 ?_
      refine sm_vi (As := [.int x1, .int (x3 + r12)]) (rest := []) hP hK hD hE hS hA ⟨hx, hb, hml, hown, hts⟩ hl.1 (c_X12_come l D H.size t0 σ11 α x1 (x3 + r12) _ hF) (cwV 2 hts wg_X12_look_X12_come_126 rfl rfl rfl (by decide +kernel) ⟨Nat.le_of_ble_eq_true rfl, Nat.le_of_ble_eq_true rfl⟩) (va_recv hK hP (ci := 12) (q0 := 1) rfl (sm_gX12 σ11 α)) rfl rfl (Nat.le_of_ble_eq_true rfl) dX12_look_260 ⟨Nat.zero_le _, Nat.zero_le _⟩ (fun r14 σ13 H locs hF hP hS => ?_)
      refine lv_if_eq (tgt := 291) hx hb dX12_look_263 (by decide) (fun h15 => ?_) (fun h15 => ?_)
      · replace hF := hF.1 h15
        exact B291 σ13 hF H locs ls hP hS (lv_sub hl [] rfl)
      · replace hF := hF.2 h15
        exact B266 σ13 x1 x2 x4 hF H locs ls hP hS (lv_sub hl [1, 2, 3, 5] rfl)
  have B239 : ∀ (σ : sm_S) (x1 : Int32) (x2 : Int32) (x3 : Int32) (x4 : Int32), mp_X12_look_239 K σ x1 x2 x3 x4 → sm_J p l e (headSpec wp_X12_look { frames := 6, cells := 0, slots := 0, locals := 139 }).room s m ([.ref (α.1 1), .int p1, .int p2] : List Value).toArray below meth c (MQ below (va_Qi K (sm_B sm_wM D α) A) ([.ref (α.1 1), .int p1, .int p2] : List Value).toArray s 0 0 A) D A 6 (sm_wM σ α) 239 [(0, .ref (α.1 1)), (1, .int x1), (2, .int x2), (3, .int x3), (4, .int x4)] [] := by
    intro σ x1 x2 x3 x4 hF H locs ls hP hS hl
    unfold mp_X12_look_239 at hF
    refine lv_iconst (v := 1) hx hb dX12_look_239 (by decide) ?_
    refine lv_goto (tgt := 244) hx hb dX12_look_240 (by decide) ?_
    exact B244 σ x1 x2 x3 x4 1 hF H locs ls hP hS (lv_sub hl [0, 1, 2, 3, 4] rfl)
  have B202 : ∀ (σ : sm_S) (x1 : Int32) (x2 : Int32) (x3 : Int32) (x4 : Int32) (y1 : Int32) (y2 : Int32) (y3 : Int32) (y5 : Int32), mp_X12_look_202 K σ x1 x2 x3 x4 y1 y2 y3 y5 → sm_J p l e (headSpec wp_X12_look { frames := 6, cells := 0, slots := 0, locals := 139 }).room s m ([.ref (α.1 1), .int p1, .int p2] : List Value).toArray below meth c (MQ below (va_Qi K (sm_B sm_wM D α) A) ([.ref (α.1 1), .int p1, .int p2] : List Value).toArray s 0 0 A) D A 6 (sm_wM σ α) 202 [(0, .ref (α.1 1)), (1, .int x1), (2, .int x2), (3, .int x3), (4, .int x4)] [.int y5, .ref (α.1 3), .int y3, .int y2, .int y1, .ref (α.1 1)] := by
    intro σ x1 x2 x3 x4 y1 y2 y3 y5 hF H locs ls hP hS hl
    unfold mp_X12_look_202 at hF
    obtain ⟨h16, hF⟩ := hF
    refine va_iald (n := (σ.2.2.1 3)) (f := (σ.2.2.2.1 3)) hx hb hK hP 3 1 (sm_aM3 σ α) (sm_yM3 α) h16 dX12_look_202 ?_
    refine sm_vi (As := [.int y1, .int y2, .int y3, .int ((σ.2.2.2.1 3) y5.toNatClampNeg)]) (rest := []) hP hK hD hE hS hA ⟨hx, hb, hml, hown, hts⟩ hl.1 (c_X12_fits l D H.size t0 σ α y1 y2 y3 ((σ.2.2.2.1 3) y5.toNatClampNeg) _ hF) (cwV 4 hts wg_X12_look_X12_fits_129 rfl rfl rfl (by decide +kernel) ⟨Nat.le_of_ble_eq_true rfl, Nat.le_of_ble_eq_true rfl⟩) (va_recv hK hP (ci := 12) (q0 := 1) rfl (sm_gX12 σ α)) rfl rfl (Nat.le_of_ble_eq_true rfl) dX12_look_203 ⟨Nat.zero_le _, Nat.zero_le _⟩ (fun r18 σ17 H locs hF hP hS => ?_)
    refine lv_if_ne (tgt := 211) hx hb dX12_look_206 (by decide) (fun h19 => ?_) (fun h19 => ?_)
    · replace hF := hF.1 h19
      refine lv_iload hx hb dX12_look_211 (lv_at hl 4 rfl) ?_
      refine lv_bipush (v := 25) hx hb dX12_look_213 (by decide) ?_
      refine lv_icmp_eq (tgt := 239) hx hb dX12_look_215 (by decide) (fun h20 => ?_) (fun h20 => ?_)
      · replace hF := hF.1 h20
        exact B239 σ17 x1 x2 x3 x4 hF H locs ls hP hS (lv_sub hl [0, 1, 2, 3, 4] rfl)
      · replace hF := hF.2 h20
        refine lv_iload hx hb dX12_look_218 (lv_at hl 4 rfl) ?_
        refine lv_bipush (v := 37) hx hb dX12_look_220 (by decide) ?_
        refine lv_icmp_eq (tgt := 239) hx hb dX12_look_222 (by decide) (fun h21 => ?_) (fun h21 => ?_)
        · replace hF := hF.1 h21
          exact B239 σ17 x1 x2 x3 x4 hF H locs ls hP hS (lv_sub hl [0, 1, 2, 3, 4] rfl)
        · replace hF := hF.2 h21
          refine lv_iload hx hb dX12_look_225 (lv_at hl 4 rfl) ?_
          refine lv_bipush (v := 38) hx hb dX12_look_227 (by decide) ?_
          refine lv_icmp_eq (tgt := 239) hx hb dX12_look_229 (by decide) (fun h22 => ?_) (fun h22 => ?_)
          · replace hF := hF.1 h22
            exact B239 σ17 x1 x2 x3 x4 hF H locs ls hP hS (lv_sub hl [0, 1, 2, 3, 4] rfl)
          · replace hF := hF.2 h22
            refine lv_iload hx hb dX12_look_232 (lv_at hl 4 rfl) ?_
            refine lv_bipush (v := 39) hx hb dX12_look_234 (by decide) ?_
            refine lv_icmp_ne (tgt := 243) hx hb dX12_look_236 (by decide) (fun h23 => ?_) (fun h23 => ?_)
            · replace hF := hF.1 h23
              refine lv_iconst (v := 0) hx hb dX12_look_243 (by decide) ?_
              exact B244 σ17 x1 x2 x3 x4 0 hF H locs ls hP hS (lv_sub hl [0, 1, 2, 3, 4] rfl)
            · replace hF := hF.2 h23
              exact B239 σ17 x1 x2 x3 x4 hF H locs ls hP hS (lv_sub hl [0, 1, 2, 3, 4] rfl)
    · replace hF := hF.2 h19
      refine lv_iconst (v := 0) hx hb dX12_look_209 (by decide) ?_
      exact W.zret (v := 0) hx hb hr sm_z0.1 (fun t ht hW => ⟨⟨0, σ17, rfl, hF, (by unfold sm_B; rw [ht]; exact hP)⟩, hS.F ht⟩) hS.2.2 dX12_look_210
  have B178 : ∀ (σ : sm_S) (x1 : Int32) (x2 : Int32) (x3 : Int32) (x4 : Int32) (y1 : Int32) (y2 : Int32) (y4 : Int32), mp_X12_look_178 K σ x1 x2 x3 x4 y1 y2 y4 → sm_J p l e (headSpec wp_X12_look { frames := 6, cells := 0, slots := 0, locals := 139 }).room s m ([.ref (α.1 1), .int p1, .int p2] : List Value).toArray below meth c (MQ below (va_Qi K (sm_B sm_wM D α) A) ([.ref (α.1 1), .int p1, .int p2] : List Value).toArray s 0 0 A) D A 6 (sm_wM σ α) 178 [(0, .ref (α.1 1)), (1, .int x1), (2, .int x2), (3, .int x3), (4, .int x4)] [.int y4, .ref (α.1 3), .int y2, .int y1, .ref (α.1 1)] := by
    intro σ x1 x2 x3 x4 y1 y2 y4 hF H locs ls hP hS hl
    unfold mp_X12_look_178 at hF
    obtain ⟨h24, hF⟩ := hF
    refine va_iald (n := (σ.2.2.1 3)) (f := (σ.2.2.2.1 3)) hx hb hK hP 3 1 (sm_aM3 σ α) (sm_yM3 α) h24 dX12_look_178 ?_
    refine lv_aload_n hx hb dX12_look_179 rfl (lv_at hl 0 rfl) ?_
    refine va_get (D := D) (ci := 12) (v := .ref (α.1 0)) (C := RX12) (T := TX12) (N := 42) hx hb hts in_X12 hown hK hP 1 (sm_gX12 σ α) rfl 0 (by decide) k_2 (fun _ h9 => h9) rfl dX12_look_180 ?_
    refine va_getN (D := D) (ci := 11) (v := .ref (α.1 3)) (C := RX11) (T := TX11) (N := 28) hx hb hts in_X11 hown hK hP 0 (sm_gX11 σ α) rfl 2 (by decide) (va_Nw.use rfl (hE.1 (.fieldLinkNest "SteadyMachineModel" 111 "SteadyMachineModel$Image" "image" "[I" "SteadyMachineModel") (by decide +kernel))) (fun _ h9 => h9) rfl dX12_look_183 ?_
    refine lv_iload_n hx hb dX12_look_186 rfl (lv_at hl 2 rfl) ?_
    refine lv_iconst (v := 2) hx hb dX12_look_187 (by decide) ?_
    refine lv_iadd hx hb dX12_look_188 ?_
    refine lv_sipush (v := 8000) hx hb dX12_look_189 (by decide) ?_
    refine lv_icmp_ge (tgt := 201) hx hb dX12_look_192 (by decide) (fun h25 => ?_) (fun h25 => ?_)
    · replace hF := hF.1 h25
      refine lv_iload_n hx hb dX12_look_201 rfl (lv_at hl 2 rfl) ?_
      exact B202 σ x1 x2 x3 x4 y1 y2 ((σ.2.2.2.1 3) y4.toNatClampNeg) x2 hF H locs ls hP hS (lv_sub hl [0, 1, 2, 3, 4] rfl)
    · replace hF := hF.2 h25
      refine lv_iload_n hx hb dX12_look_195 rfl (lv_at hl 2 rfl) ?_
      refine lv_iconst (v := 2) hx hb dX12_look_196 (by decide) ?_
      refine lv_iadd hx hb dX12_look_197 ?_
      refine lv_goto (tgt := 202) hx hb dX12_look_198 (by decide) ?_
      exact B202 σ x1 x2 x3 x4 y1 y2 ((σ.2.2.2.1 3) y4.toNatClampNeg) (x2 + 2) hF H locs ls hP hS (lv_sub hl [0, 1, 2, 3, 4] rfl)
  have B128 : ∀ (L15 : sm_S → Int32 → Int32 → Int32 → Int32 → Prop) (hL15 : ∀ (σ : sm_S) (x1 : Int32) (x2 : Int32) (x3 : Int32) (x4 : Int32), L15 σ x1 x2 x3 x4 → sm_J p l e (headSpec wp_X12_look { frames := 6, cells := 0, slots := 0, locals := 139 }).room s m ([.ref (α.1 1), .int p1, .int p2] : List Value).toArray below meth c (MQ below (va_Qi K (sm_B sm_wM D α) A) ([.ref (α.1 1), .int p1, .int p2] : List Value).toArray s 0 0 A) D A 6 (sm_wM σ α) 15 [(0, .ref (α.1 1)), (1, .int x1), (2, .int x2), (3, .int x3), (4, .int x4)] []) (σ : sm_S) (x1 : Int32) (x2 : Int32) (x3 : Int32) (x4 : Int32), mp_X12_look_128 L15 K σ x1 x2 x3 x4 → sm_J p l e (headSpec wp_X12_look { frames := 6, cells := 0, slots := 0, locals := 139 }).room s m ([.ref (α.1 1), .int p1, .int p2] : List Value).toArray below meth c (MQ below (va_Qi K (sm_B sm_wM D α) A) ([.ref (α.1 1), .int p1, .int p2] : List Value).toArray s 0 0 A) D A 6 (sm_wM σ α) 128 [(0, .ref (α.1 1)), (1, .int x1), (2, .int x2), (3, .int x3), (4, .int x4)] [] := by
    intro L15 hL15 σ x1 x2 x3 x4 hF H locs ls hP hS hl
    unfold mp_X12_look_128 at hF
    obtain ⟨v26, ev26⟩ : ∃ y : Int32, y = x4 + 1 := ⟨_, rfl⟩
    replace hF := hF v26 ev26
    refine lv_iinc (v := v26) (lv' := [(4, .int v26), (0, .ref (α.1 1)), (1, .int x1), (2, .int x2), (3, .int x3)]) hx hb dX12_look_128 hl (k := 4) rfl (by rw [ev26]; rfl) (by decide) rfl (fun ls hl => ?_)
    refine lv_goto (tgt := 15) hx hb dX12_look_131 (by decide) ?_
    exact hL15 σ x1 x2 x3 v26 hF H locs ls hP hS (lv_sub hl [1, 2, 3, 4, 0] rfl)
  have B126 : ∀ (L15 : sm_S → Int32 → Int32 → Int32 → Int32 → Prop) (hL15 : ∀ (σ : sm_S) (x1 : Int32) (x2 : Int32) (x3 : Int32) (x4 : Int32), L15 σ x1 x2 x3 x4 → sm_J p l e (headSpec wp_X12_look { frames := 6, cells := 0, slots := 0, locals := 139 }).room s m ([.ref (α.1 1), .int p1, .int p2] : List Value).toArray below meth c (MQ below (va_Qi K (sm_B sm_wM D α) A) ([.ref (α.1 1), .int p1, .int p2] : List Value).toArray s 0 0 A) D A 6 (sm_wM σ α) 15 [(0, .ref (α.1 1)), (1, .int x1), (2, .int x2), (3, .int x3), (4, .int x4)] []) (σ : sm_S), mp_X12_look_126 L15 K σ → sm_J p l e (headSpec wp_X12_look { frames := 6, cells := 0, slots := 0, locals := 139 }).room s m ([.ref (α.1 1), .int p1, .int p2] : List Value).toArray below meth c (MQ below (va_Qi K (sm_B sm_wM D α) A) ([.ref (α.1 1), .int p1, .int p2] : List Value).toArray s 0 0 A) D A 6 (sm_wM σ α) 126 [] [] := by
    intro L15 hL15 σ hF H locs ls hP hS hl
    unfold mp_X12_look_126 at hF
    refine lv_iconst (v := 0) hx hb dX12_look_126 (by decide) ?_
    exact W.zret (v := 0) hx hb hr sm_z0.1 (fun t ht hW => ⟨⟨0, σ, rfl, hF, (by unfold sm_B; rw [ht]; exact hP)⟩, hS.F ht⟩) hS.2.2 dX12_look_127
  have B15 : ∀ (n : Nat) (σ : sm_S) (x1 : Int32) (x2 : Int32) (x3 : Int32) (x4 : Int32), mp_X12_look_15 K n σ x1 x2 x3 x4 → sm_J p l e (headSpec wp_X12_look { frames := 6, cells := 0, slots := 0, locals := 139 }).room s m ([.ref (α.1 1), .int p1, .int p2] : List Value).toArray below meth c (MQ below (va_Qi K (sm_B sm_wM D α) A) ([.ref (α.1 1), .int p1, .int p2] : List Value).toArray s 0 0 A) D A 6 (sm_wM σ α) 15 [(0, .ref (α.1 1)), (1, .int x1), (2, .int x2), (3, .int x3), (4, .int x4)] [] := by
    intro n15
    induction n15 with
    | zero =>
      intro σ x1 x2 x3 x4 hF
      exact hF.elim
    | succ n15 ih15 =>
      intro σ x1 x2 x3 x4 hF H locs ls hP hS hl
      unfold mp_X12_look_15 at hF
      refine lv_iload hx hb dX12_look_15 (lv_at hl 4 rfl) ?_
      refine lv_aload_n hx hb dX12_look_17 rfl (lv_at hl 0 rfl) ?_
      refine va_get (D := D) (ci := 12) (v := .ref (α.1 0)) (C := RX12) (T := TX12) (N := 42) hx hb hts in_X12 hown hK hP 1 (sm_gX12 σ α) rfl 0 (by decide) k_2 (fun _ h9 => h9) rfl dX12_look_18 ?_
      refine va_getN (D := D) (ci := 11) (v := .ref (α.1 19)) (C := RX11) (T := TX11) (N := 28) hx hb hts in_X11 hown hK hP 0 (sm_gX11 σ α) rfl 24 (by decide) (va_Nw.use rfl (hE.1 (.fieldLinkNest "SteadyMachineModel" 116 "SteadyMachineModel$Image" "handlerCounts" "[I" "SteadyMachineModel") (by decide +kernel))) (fun _ h9 => h9) rfl dX12_look_21 ?_
      refine lv_iload_n hx hb dX12_look_24 rfl (lv_at hl 1 rfl) ?_
      obtain ⟨h27, hF⟩ := hF
      refine va_iald (n := (σ.2.2.1 19)) (f := (σ.2.2.2.1 19)) hx hb hK hP 19 17 (sm_aM19 σ α) (sm_yM19 α) h27 dX12_look_25 ?_
      refine lv_icmp_ge (tgt := 134) hx hb dX12_look_26 (by decide) (fun h28 => ?_) (fun h28 => ?_)
      · replace hF := hF.1 h28
        refine lv_aload_n hx hb dX12_look_134 rfl (lv_at hl 0 rfl) ?_
        refine lv_iload_n hx hb dX12_look_135 rfl (lv_at hl 1 rfl) ?_
        refine lv_iload_n hx hb dX12_look_136 rfl (lv_at hl 2 rfl) ?_
        refine sm_vv (As := [.int x1, .int x2]) (rest := []) hP hK hD hE hS hA ⟨hx, hb, hml, hown, hts⟩ hl.1 (c_X12_takeUp l D H.size t0 σ α x1 x2 _ hF) (cwV 2 hts wg_X12_look_X12_takeUp_122 rfl rfl rfl (by decide +kernel) ⟨Nat.le_of_ble_eq_true rfl, Nat.le_of_ble_eq_true rfl⟩) (va_recv hK hP (ci := 12) (q0 := 1) rfl (sm_gX12 σ α)) rfl rfl (Nat.le_of_ble_eq_true rfl) dX12_look_137 ⟨Nat.zero_le _, Nat.zero_le _⟩ (fun σ29 H locs hF hP hS => ?_)
        refine lv_aload_n hx hb dX12_look_140 rfl (lv_at hl 0 rfl) ?_
        refine va_get (D := D) (ci := 12) (v := .ref (α.1 0)) (C := RX12) (T := TX12) (N := 42) hx hb hts in_X12 hown hK hP 1 (sm_gX12 σ29 α) rfl 0 (by decide) k_2 (fun _ h9 => h9) rfl dX12_look_141 ?_
        refine va_getN (D := D) (ci := 11) (v := .ref (α.1 3)) (C := RX11) (T := TX11) (N := 28) hx hb hts in_X11 hown hK hP 0 (sm_gX11 σ29 α) rfl 2 (by decide) (va_Nw.use rfl (hE.1 (.fieldLinkNest "SteadyMachineModel" 111 "SteadyMachineModel$Image" "image" "[I" "SteadyMachineModel") (by decide +kernel))) (fun _ h9 => h9) rfl dX12_look_144 ?_
        refine lv_iload_n hx hb dX12_look_147 rfl (lv_at hl 2 rfl) ?_
        obtain ⟨h30, hF⟩ := hF
        refine va_iald (n := (σ29.2.2.1 3)) (f := (σ29.2.2.2.1 3)) hx hb hK hP 3 1 (sm_aM3 σ29 α) (sm_yM3 α) h30 dX12_look_148 ?_
        refine lv_topi (fun v31 ev31 => ?_)
        replace hF := hF v31 ev31
        refine lv_istore (lv' := [(4, .int v31), (0, .ref (α.1 1)), (1, .int x1), (2, .int x2), (3, .int x3)]) hx hb dX12_look_149 hl (by decide) rfl (fun ls hl => ?_)
        refine lv_aload_n hx hb dX12_look_151 rfl (lv_at hl 1 rfl) ?_
        refine lv_iload_n hx hb dX12_look_152 rfl (lv_at hl 2 rfl) ?_
        refine lv_iload hx hb dX12_look_153 (lv_at hl 0 rfl) ?_
        refine lv_aload_n hx hb dX12_look_155 rfl (lv_at hl 1 rfl) ?_
        refine va_get (D := D) (ci := 12) (v := .ref (α.1 0)) (C := RX12) (T := TX12) (N := 42) hx hb hts in_X12 hown hK hP 1 (sm_gX12 σ29 α) rfl 0 (by decide) k_2 (fun _ h9 => h9) rfl dX12_look_156 ?_
        refine va_getN (D := D) (ci := 11) (v := .ref (α.1 3)) (C := RX11) (T := TX11) (N := 28) hx hb hts in_X11 hown hK hP 0 (sm_gX11 σ29 α) rfl 2 (by decide) (va_Nw.use rfl (hE.1 (.fieldLinkNest "SteadyMachineModel" 111 "SteadyMachineModel$Image" "image" "[I" "SteadyMachineModel") (by decide +kernel))) (fun _ h9 => h9) rfl dX12_look_159 ?_
        refine lv_iload_n hx hb dX12_look_162 rfl (lv_at hl 3 rfl) ?_
        refine lv_iconst (v := 1) hx hb dX12_look_163 (by decide) ?_
        refine lv_iadd hx hb dX12_look_164 ?_
        refine lv_sipush (v := 8000) hx hb dX12_look_165 (by decide) ?_
        refine lv_icmp_ge (tgt := 177) hx hb dX12_look_168 (by decide) (fun h32 => ?_) (fun h32 => ?_)
        · replace hF := hF.1 h32
          refine lv_iload_n hx hb dX12_look_177 rfl (lv_at hl 3 rfl) ?_
          exact B178 σ29 x1 x2 x3 v31 x1 v31 x2 hF H locs ls hP hS (lv_sub hl [1, 2, 3, 4, 0] rfl)
        · replace hF := hF.2 h32
          refine lv_iload_n hx hb dX12_look_171 rfl (lv_at hl 3 rfl) ?_
          refine lv_iconst (v := 1) hx hb dX12_look_172 (by decide) ?_
          refine lv_iadd hx hb dX12_look_173 ?_
          refine lv_goto (tgt := 178) hx hb dX12_look_174 (by decide) ?_
          exact B178 σ29 x1 x2 x3 v31 x1 v31 (x2 + 1) hF H locs ls hP hS (lv_sub hl [1, 2, 3, 4, 0] rfl)
      · replace hF := hF.2 h28
        refine lv_aload_n hx hb dX12_look_29 rfl (lv_at hl 0 rfl) ?_
        refine va_get (D := D) (ci := 12) (v := .ref (α.1 0)) (C := RX12) (T := TX12) (N := 42) hx hb hts in_X12 hown hK hP 1 (sm_gX12 σ α) rfl 0 (by decide) k_2 (fun _ h9 => h9) rfl dX12_look_30 ?_
        refine va_getN (D := D) (ci := 11) (v := .ref (α.1 20)) (C := RX11) (T := TX11) (N := 28) hx hb hts in_X11 hown hK hP 0 (sm_gX11 σ α) rfl 25 (by decide) (va_Nw.use rfl (hE.1 (.fieldLinkNest "SteadyMachineModel" 119 "SteadyMachineModel$Image" "handlerAt" "[I" "SteadyMachineModel") (by decide +kernel))) (fun _ h9 => h9) rfl dX12_look_33 ?_
        refine lv_iload_n hx hb dX12_look_36 rfl (lv_at hl 1 rfl) ?_
        obtain ⟨h33, hF⟩ := hF
        refine va_iald (n := (σ.2.2.1 20)) (f := (σ.2.2.2.1 20)) hx hb hK hP 20 18 (sm_aM20 σ α) (sm_yM20 α) h33 dX12_look_37 ?_
        refine lv_bipush (v := 7) hx hb dX12_look_38 (by decide) ?_
        refine lv_iload hx hb dX12_look_40 (lv_at hl 4 rfl) ?_
        refine lv_imul hx hb dX12_look_42 ?_
        refine lv_iadd hx hb dX12_look_43 ?_
        refine lv_topi (fun v34 ev34 => ?_)
        replace hF := hF v34 ev34
        refine lv_istore (lv' := [(5, .int v34), (0, .ref (α.1 1)), (1, .int x1), (2, .int x2), (3, .int x3), (4, .int x4)]) hx hb dX12_look_44 hl (by decide) rfl (fun ls hl => ?_)
        refine lv_aload_n hx hb dX12_look_46 rfl (lv_at hl 1 rfl) ?_
        refine va_get (D := D) (ci := 12) (v := .ref (α.1 0)) (C := RX12) (T := TX12) (N := 42) hx hb hts in_X12 hown hK hP 1 (sm_gX12 σ α) rfl 0 (by decide) k_2 (fun _ h9 => h9) rfl dX12_look_47 ?_
        refine lv_iload hx hb dX12_look_50 (lv_at hl 0 rfl) ?_
        refine sm_nvi (As := [.int v34]) (rest := []) hP hK hD hE hS hA ⟨hx, hb, hml, hown, hts⟩ hl.1 (c_X11_two l D H.size t0 σ α v34 _ hF) ⟨va_cnB 1 hts wg_X12_look_X11_two_113 rfl rfl rfl (hE.1 (.methodLinkNest "SteadyMachineModel" 113 ⟨"SteadyMachineModel$Image", "two", "(I)I"⟩ "SteadyMachineModel") (by decide +kernel)) k_0 (by decide +kernel) ⟨Nat.le_of_ble_eq_true rfl, Nat.le_of_ble_eq_true rfl⟩, k_3, k_4⟩ (va_recv hK hP (ci := 11) (q0 := 0) rfl (sm_gX11 σ α)) rfl rfl (Nat.le_of_ble_eq_true rfl) dX12_look_52 ⟨Nat.zero_le _, Nat.zero_le _⟩ (fun r36 σ35 H locs hF hP hS => ?_)
        refine lv_iload_n hx hb dX12_look_55 rfl (lv_at hl 4 rfl) ?_
        refine lv_icmp_gt (tgt := 128) hx hb dX12_look_56 (by decide) (fun h37 => ?_) (fun h37 => ?_)
        · replace hF := hF.1 h37
          exact B128 (mp_X12_look_15 K n15) ih15 σ35 x1 x2 x3 x4 hF H locs ls hP hS (lv_sub hl [1, 2, 3, 4, 5] rfl)
        · replace hF := hF.2 h37
          refine lv_iload_n hx hb dX12_look_59 rfl (lv_at hl 4 rfl) ?_
          refine lv_aload_n hx hb dX12_look_60 rfl (lv_at hl 1 rfl) ?_
          refine va_get (D := D) (ci := 12) (v := .ref (α.1 0)) (C := RX12) (T := TX12) (N := 42) hx hb hts in_X12 hown hK hP 1 (sm_gX12 σ35 α) rfl 0 (by decide) k_2 (fun _ h9 => h9) rfl dX12_look_61 ?_
          refine lv_iload hx hb dX12_look_64 (lv_at hl 0 rfl) ?_
          refine lv_iconst (v := 2) hx hb dX12_look_66 (by decide) ?_
          refine lv_iadd hx hb dX12_look_67 ?_
          refine sm_nvi (As := [.int (v34 + 2)]) (rest := [.int x3]) hP hK hD hE hS hA ⟨hx, hb, hml, hown, hts⟩ hl.1 (c_X11_two l D H.size t0 σ35 α (v34 + 2) _ hF) ⟨va_cnB 1 hts wg_X12_look_X11_two_113 rfl rfl rfl (hE.1 (.methodLinkNest "SteadyMachineModel" 113 ⟨"SteadyMachineModel$Image", "two", "(I)I"⟩ "SteadyMachineModel") (by decide +kernel)) k_0 (by decide +kernel) ⟨Nat.le_of_ble_eq_true rfl, Nat.le_of_ble_eq_true rfl⟩, k_3, k_4⟩ (va_recv hK hP (ci := 11) (q0 := 0) rfl (sm_gX11 σ35 α)) rfl rfl (Nat.le_of_ble_eq_true rfl) dX12_look_68 ⟨Nat.zero_le _, Nat.zero_le _⟩ (fun r39 σ38 H locs hF hP hS => ?_)
          refine lv_icmp_ge (tgt := 128) hx hb dX12_look_71 (by decide) (fun h40 => ?_) (fun h40 => ?_)
          · replace hF := hF.1 h40
            exact B128 (mp_X12_look_15 K n15) ih15 σ38 x1 x2 x3 x4 hF H locs ls hP hS (lv_sub hl [1, 2, 3, 4, 5] rfl)
          · replace hF := hF.2 h40
            refine lv_aload_n hx hb dX12_look_74 rfl (lv_at hl 1 rfl) ?_
            refine lv_iload_n hx hb dX12_look_75 rfl (lv_at hl 2 rfl) ?_
            refine lv_iload_n hx hb dX12_look_76 rfl (lv_at hl 3 rfl) ?_
            refine sm_vv (As := [.int x1, .int x2]) (rest := []) hP hK hD hE hS hA ⟨hx, hb, hml, hown, hts⟩ hl.1 (c_X12_takeUp l D H.size t0 σ38 α x1 x2 _ hF) (cwV 2 hts wg_X12_look_X12_takeUp_122 rfl rfl rfl (by decide +kernel) ⟨Nat.le_of_ble_eq_true rfl, Nat.le_of_ble_eq_true rfl⟩) (va_recv hK hP (ci := 12) (q0 := 1) rfl (sm_gX12 σ38 α)) rfl rfl (Nat.le_of_ble_eq_true rfl) dX12_look_77 ⟨Nat.zero_le _, Nat.zero_le _⟩ (fun σ41 H locs hF hP hS => ?_)
            refine lv_aload_n hx hb dX12_look_80 rfl (lv_at hl 1 rfl) ?_
            refine lv_iconst (v := 0) hx hb dX12_look_81 (by decide) ?_
            refine va_put (D := D) (ci := 12) (v := .int 0) (ty := .int) (C := RX12) (T := TX12) (N := 42) hx hb hts in_X12 tyX12 tyX12_ok nmX12 hown hK hP (hD.to (sm_wM_m _ _)) hS 1 (sm_gX12 σ41 α) rfl 5 (by decide) k_5 (fun _ h9 => h9) rfl (by decide +kernel) rfl rfl (Nat.le_of_ble_eq_true rfl) dX12_look_82 (fun H locs hP _ hS => ?_)
            rw [sm_iM9] at hP
            obtain ⟨σ42, eσ42⟩ : ∃ x : sm_S, x = sm_i σ41 9 0 := ⟨_, rfl⟩
            replace hF := hF σ42 eσ42
            rw [← eσ42] at hP
            refine lv_aload_n hx hb dX12_look_85 rfl (lv_at hl 1 rfl) ?_
            refine lv_iload_n hx hb dX12_look_86 rfl (lv_at hl 2 rfl) ?_
            refine lv_iconst (v := 1) hx hb dX12_look_87 (by decide) ?_
            refine lv_aload_n hx hb dX12_look_88 rfl (lv_at hl 1 rfl) ?_
            refine va_get (D := D) (ci := 12) (v := .ref (α.1 0)) (C := RX12) (T := TX12) (N := 42) hx hb hts in_X12 hown hK hP 1 (sm_gX12 σ42 α) rfl 0 (by decide) k_2 (fun _ h9 => h9) rfl dX12_look_89 ?_
            refine va_getN (D := D) (ci := 11) (v := .ref (α.1 3)) (C := RX11) (T := TX11) (N := 28) hx hb hts in_X11 hown hK hP 0 (sm_gX11 σ42 α) rfl 2 (by decide) (va_Nw.use rfl (hE.1 (.fieldLinkNest "SteadyMachineModel" 111 "SteadyMachineModel$Image" "image" "[I" "SteadyMachineModel") (by decide +kernel))) (fun _ h9 => h9) rfl dX12_look_92 ?_
            refine lv_iload hx hb dX12_look_95 (lv_at hl 0 rfl) ?_
            refine lv_iconst (v := 4) hx hb dX12_look_97 (by decide) ?_
            refine lv_iadd hx hb dX12_look_98 ?_
            obtain ⟨h43, hF⟩ := hF
            refine va_iald (n := (σ42.2.2.1 3)) (f := (σ42.2.2.2.1 3)) hx hb hK hP 3 1 (sm_aM3 σ42 α) (sm_yM3 α) h43 dX12_look_99 ?_
            refine lv_iadd hx hb dX12_look_100 ?_
            refine sm_vi (As := [.int x1, .int (1 + ((σ42.2.2.2.1 3) (v34 + 4).toNatClampNeg))]) (rest := []) hP hK hD hE hS hA ⟨hx, hb, hml, hown, hts⟩ hl.1 (c_X12_push l D H.size t0 σ42 α x1 (1 + ((σ42.2.2.2.1 3) (v34 + 4).toNatClampNeg)) _ hF) (cwV 2 hts wg_X12_look_X12_push_80 rfl rfl rfl (by decide +kernel) ⟨Nat.le_of_ble_eq_true rfl, Nat.le_of_ble_eq_true rfl⟩) (va_recv hK hP (ci := 12) (q0 := 1) rfl (sm_gX12 σ42 α)) rfl rfl (Nat.le_of_ble_eq_true rfl) dX12_look_101 ⟨Nat.zero_le _, Nat.zero_le _⟩ (fun r45 σ44 H locs hF hP hS => ?_)
            refine lv_if_eq (tgt := 126) hx hb dX12_look_104 (by decide) (fun h46 => ?_) (fun h46 => ?_)
            · replace hF := hF.1 h46
              exact B126 (mp_X12_look_15 K n15) ih15 σ44 hF H locs ls hP hS (lv_sub hl [] rfl)
            · replace hF := hF.2 h46
              refine lv_aload_n hx hb dX12_look_107 rfl (lv_at hl 1 rfl) ?_
              refine lv_iload_n hx hb dX12_look_108 rfl (lv_at hl 2 rfl) ?_
              refine lv_aload_n hx hb dX12_look_109 rfl (lv_at hl 1 rfl) ?_
              refine va_get (D := D) (ci := 12) (v := .ref (α.1 0)) (C := RX12) (T := TX12) (N := 42) hx hb hts in_X12 hown hK hP 1 (sm_gX12 σ44 α) rfl 0 (by decide) k_2 (fun _ h9 => h9) rfl dX12_look_110 ?_
              refine lv_iload hx hb dX12_look_113 (lv_at hl 0 rfl) ?_
              refine lv_iconst (v := 5) hx hb dX12_look_115 (by decide) ?_
              refine lv_iadd hx hb dX12_look_116 ?_
              refine sm_nvi (As := [.int (v34 + 5)]) (rest := [.int x1, .ref (α.1 1)]) hP hK hD hE hS hA ⟨hx, hb, hml, hown, hts⟩ hl.1 (c_X11_two l D H.size t0 σ44 α (v34 + 5) _ hF) ⟨va_cnB 1 hts wg_X12_look_X11_two_113 rfl rfl rfl (hE.1 (.methodLinkNest "SteadyMachineModel" 113 ⟨"SteadyMachineModel$Image", "two", "(I)I"⟩ "SteadyMachineModel") (by decide +kernel)) k_0 (by decide +kernel) ⟨Nat.le_of_ble_eq_true rfl, Nat.le_of_ble_eq_true rfl⟩, k_3, k_4⟩ (va_recv hK hP (ci := 11) (q0 := 0) rfl (sm_gX11 σ44 α)) rfl rfl (Nat.le_of_ble_eq_true rfl) dX12_look_117 ⟨Nat.zero_le _, Nat.zero_le _⟩ (fun r48 σ47 H locs hF hP hS => ?_)
              refine sm_vi (As := [.int x1, .int r48]) (rest := []) hP hK hD hE hS hA ⟨hx, hb, hml, hown, hts⟩ hl.1 (c_X12_come l D H.size t0 σ47 α x1 r48 _ hF) (cwV 2 hts wg_X12_look_X12_come_126 rfl rfl rfl (by decide +kernel) ⟨Nat.le_of_ble_eq_true rfl, Nat.le_of_ble_eq_true rfl⟩) (va_recv hK hP (ci := 12) (q0 := 1) rfl (sm_gX12 σ47 α)) rfl rfl (Nat.le_of_ble_eq_true rfl) dX12_look_120 ⟨Nat.zero_le _, Nat.zero_le _⟩ (fun r50 σ49 H locs hF hP hS => ?_)
              refine lv_if_ne (tgt := 128) hx hb dX12_look_123 (by decide) (fun h51 => ?_) (fun h51 => ?_)
              · replace hF := hF.1 h51
                exact B128 (mp_X12_look_15 K n15) ih15 σ49 x1 x2 x3 x4 hF H locs ls hP hS (lv_sub hl [1, 2, 3, 4, 5] rfl)
              · replace hF := hF.2 h51
                exact B126 (mp_X12_look_15 K n15) ih15 σ49 hF H locs ls hP hS (lv_sub hl [] rfl)
  unfold mp_X12_look at hF
  revert hP hS
  generalize hLo : ([] : List Loc) = locs
  suffices h9 : ∀ (H : Heap) (locs : List Loc), va_P D vwCl (sm_wM σ α) H → va_S A s.heap H locs → W p l e (headSpec wp_X12_look { frames := 6, cells := 0, slots := 0, locals := 139 }).room s m ([.ref (α.1 1), .int p1, .int p2] : List Value).toArray below meth c H locs 0 0 (MQ below (va_Qi K (sm_B sm_wM D α) A) ([.ref (α.1 1), .int p1, .int p2] : List Value).toArray s 0 0 A) (F0 m 0 ls []) from fun hP hS => h9 s.heap locs hP hS
  intro H locs hP hS
  refine lv_iload_n hx hb dX12_look_0 rfl (lv_at hl 2 rfl) ?_
  refine lv_aload_n hx hb dX12_look_1 rfl (lv_at hl 0 rfl) ?_
  refine va_get (D := D) (ci := 12) (v := .ref (α.1 0)) (C := RX12) (T := TX12) (N := 42) hx hb hts in_X12 hown hK hP 1 (sm_gX12 σ α) rfl 0 (by decide) k_2 (fun _ h9 => h9) rfl dX12_look_2 ?_
  refine va_getN (D := D) (ci := 11) (v := .ref (α.1 17)) (C := RX11) (T := TX11) (N := 28) hx hb hts in_X11 hown hK hP 0 (sm_gX11 σ α) rfl 22 (by decide) (va_Nw.use rfl (hE.1 (.fieldLinkNest "SteadyMachineModel" 30 "SteadyMachineModel$Image" "codeAt" "[I" "SteadyMachineModel") (by decide +kernel))) (fun _ h9 => h9) rfl dX12_look_5 ?_
  refine lv_iload_n hx hb dX12_look_8 rfl (lv_at hl 1 rfl) ?_
  obtain ⟨h52, hF⟩ := hF
  refine va_iald (n := (σ.2.2.1 17)) (f := (σ.2.2.2.1 17)) hx hb hK hP 17 15 (sm_aM17 σ α) (sm_yM17 α) h52 dX12_look_9 ?_
  refine lv_isub hx hb dX12_look_10 ?_
  refine lv_topi (fun v53 ev53 => ?_)
  replace hF := hF v53 ev53
  refine lv_istore_n (lv' := [(3, .int v53), (0, .ref (α.1 1)), (1, .int p1), (2, .int p2)]) hx hb dX12_look_11 rfl hl (by decide) rfl (fun ls hl => ?_)
  refine lv_iconst (v := 0) hx hb dX12_look_12 (by decide) ?_
  refine lv_istore (lv' := [(4, .int 0), (3, .int v53), (0, .ref (α.1 1)), (1, .int p1), (2, .int p2)]) hx hb dX12_look_13 hl (by decide) rfl (fun ls hl => ?_)
  obtain ⟨n15, hF⟩ := hF
  exact B15 n15 σ p1 p2 v53 0 hF H locs ls hP hS (lv_sub hl [2, 3, 4, 1, 0] rfl)
theorem dX12_verify_0 : decode cX12_verify 0 = .ok (.aload_n 0, 1) := by decide +kernel
theorem dX12_verify_1 : decode cX12_verify 1 = .ok (.iconst 0, 1) := by decide +kernel
theorem dX12_verify_2 : decode cX12_verify 2 = .ok (.putfield 36, 3) := by decide +kernel
theorem dX12_verify_5 : decode cX12_verify 5 = .ok (.iconst 0, 1) := by decide +kernel
theorem dX12_verify_6 : decode cX12_verify 6 = .ok (.istore_n 2, 1) := by decide +kernel
theorem dX12_verify_7 : decode cX12_verify 7 = .ok (.iload_n 2, 1) := by decide +kernel
theorem dX12_verify_8 : decode cX12_verify 8 = .ok (.aload_n 0, 1) := by decide +kernel
theorem dX12_verify_9 : decode cX12_verify 9 = .ok (.getfield 10, 3) := by decide +kernel
theorem dX12_verify_12 : decode cX12_verify 12 = .ok (.getfield 27, 3) := by decide +kernel
theorem dX12_verify_15 : decode cX12_verify 15 = .ok (.iload_n 1, 1) := by decide +kernel
theorem dX12_verify_16 : decode cX12_verify 16 = .ok (.iaload, 1) := by decide +kernel
theorem dX12_verify_17 : decode cX12_verify 17 = .ok (.if_icmp .ge 47, 3) := by decide +kernel
theorem dX12_verify_20 : decode cX12_verify 20 = .ok (.aload_n 0, 1) := by decide +kernel
theorem dX12_verify_21 : decode cX12_verify 21 = .ok (.getfield 44, 3) := by decide +kernel
theorem dX12_verify_24 : decode cX12_verify 24 = .ok (.iload_n 2, 1) := by decide +kernel
theorem dX12_verify_25 : decode cX12_verify 25 = .ok (.iload_n 2, 1) := by decide +kernel
theorem dX12_verify_26 : decode cX12_verify 26 = .ok (.aload_n 0, 1) := by decide +kernel
theorem dX12_verify_27 : decode cX12_verify 27 = .ok (.getfield 10, 3) := by decide +kernel
theorem dX12_verify_30 : decode cX12_verify 30 = .ok (.getfield 68, 3) := by decide +kernel
theorem dX12_verify_33 : decode cX12_verify 33 = .ok (.iload_n 1, 1) := by decide +kernel
theorem dX12_verify_34 : decode cX12_verify 34 = .ok (.iaload, 1) := by decide +kernel
theorem dX12_verify_35 : decode cX12_verify 35 = .ok (.if_icmp .ge 20, 3) := by decide +kernel
theorem dX12_verify_38 : decode cX12_verify 38 = .ok (.aload_n 0, 1) := by decide +kernel
theorem dX12_verify_39 : decode cX12_verify 39 = .ok (.getfield 10, 3) := by decide +kernel
theorem dX12_verify_42 : decode cX12_verify 42 = .ok (.getfield 71, 3) := by decide +kernel
theorem dX12_verify_45 : decode cX12_verify 45 = .ok (.bipush 8, 2) := by decide +kernel
theorem dX12_verify_47 : decode cX12_verify 47 = .ok (.iload_n 1, 1) := by decide +kernel
theorem dX12_verify_48 : decode cX12_verify 48 = .ok (.imul, 1) := by decide +kernel
theorem dX12_verify_49 : decode cX12_verify 49 = .ok (.iload_n 2, 1) := by decide +kernel
theorem dX12_verify_50 : decode cX12_verify 50 = .ok (.iadd, 1) := by decide +kernel
theorem dX12_verify_51 : decode cX12_verify 51 = .ok (.iaload, 1) := by decide +kernel
theorem dX12_verify_52 : decode cX12_verify 52 = .ok (.goto 5, 3) := by decide +kernel
theorem dX12_verify_55 : decode cX12_verify 55 = .ok (.bipush 99, 2) := by decide +kernel
theorem dX12_verify_57 : decode cX12_verify 57 = .ok (.iastore, 1) := by decide +kernel
theorem dX12_verify_58 : decode cX12_verify 58 = .ok (.iinc 2 1, 3) := by decide +kernel
theorem dX12_verify_61 : decode cX12_verify 61 = .ok (.goto (-54), 3) := by decide +kernel
theorem dX12_verify_64 : decode cX12_verify 64 = .ok (.aload_n 0, 1) := by decide +kernel
theorem dX12_verify_65 : decode cX12_verify 65 = .ok (.iload_n 1, 1) := by decide +kernel
theorem dX12_verify_66 : decode cX12_verify 66 = .ok (.iconst 0, 1) := by decide +kernel
theorem dX12_verify_67 : decode cX12_verify 67 = .ok (.invokevirtual 126, 3) := by decide +kernel
theorem dX12_verify_70 : decode cX12_verify 70 = .ok (.istore_n 2, 1) := by decide +kernel
theorem dX12_verify_71 : decode cX12_verify 71 = .ok (.aload_n 0, 1) := by decide +kernel
theorem dX12_verify_72 : decode cX12_verify 72 = .ok (.getfield 10, 3) := by decide +kernel
theorem dX12_verify_75 : decode cX12_verify 75 = .ok (.getfield 30, 3) := by decide +kernel
theorem dX12_verify_78 : decode cX12_verify 78 = .ok (.iload_n 1, 1) := by decide +kernel
theorem dX12_verify_79 : decode cX12_verify 79 = .ok (.iaload, 1) := by decide +kernel
theorem dX12_verify_80 : decode cX12_verify 80 = .ok (.aload_n 0, 1) := by decide +kernel
theorem dX12_verify_81 : decode cX12_verify 81 = .ok (.getfield 10, 3) := by decide +kernel
theorem dX12_verify_84 : decode cX12_verify 84 = .ok (.getfield 24, 3) := by decide +kernel
theorem dX12_verify_87 : decode cX12_verify 87 = .ok (.iload_n 1, 1) := by decide +kernel
theorem dX12_verify_88 : decode cX12_verify 88 = .ok (.iaload, 1) := by decide +kernel
theorem dX12_verify_89 : decode cX12_verify 89 = .ok (.iadd, 1) := by decide +kernel
theorem dX12_verify_90 : decode cX12_verify 90 = .ok (.istore_n 3, 1) := by decide +kernel
theorem dX12_verify_91 : decode cX12_verify 91 = .ok (.aload_n 0, 1) := by decide +kernel
theorem dX12_verify_92 : decode cX12_verify 92 = .ok (.getfield 10, 3) := by decide +kernel
theorem dX12_verify_95 : decode cX12_verify 95 = .ok (.getfield 30, 3) := by decide +kernel
theorem dX12_verify_98 : decode cX12_verify 98 = .ok (.iload_n 1, 1) := by decide +kernel
theorem dX12_verify_99 : decode cX12_verify 99 = .ok (.iaload, 1) := by decide +kernel
theorem dX12_verify_100 : decode cX12_verify 100 = .ok (.istore 4, 2) := by decide +kernel
theorem dX12_verify_102 : decode cX12_verify 102 = .ok (.iload 4, 2) := by decide +kernel
theorem dX12_verify_104 : decode cX12_verify 104 = .ok (.iload_n 3, 1) := by decide +kernel
theorem dX12_verify_105 : decode cX12_verify 105 = .ok (.if_icmp .ge 62, 3) := by decide +kernel
theorem dX12_verify_108 : decode cX12_verify 108 = .ok (.aload_n 0, 1) := by decide +kernel
theorem dX12_verify_109 : decode cX12_verify 109 = .ok (.getfield 47, 3) := by decide +kernel
theorem dX12_verify_112 : decode cX12_verify 112 = .ok (.iload 4, 2) := by decide +kernel
theorem dX12_verify_114 : decode cX12_verify 114 = .ok (.baload, 1) := by decide +kernel
theorem dX12_verify_115 : decode cX12_verify 115 = .ok (.ifCond .eq 46, 3) := by decide +kernel
theorem dX12_verify_118 : decode cX12_verify 118 = .ok (.aload_n 0, 1) := by decide +kernel
theorem dX12_verify_119 : decode cX12_verify 119 = .ok (.getfield 47, 3) := by decide +kernel
theorem dX12_verify_122 : decode cX12_verify 122 = .ok (.iload 4, 2) := by decide +kernel
theorem dX12_verify_124 : decode cX12_verify 124 = .ok (.iconst 0, 1) := by decide +kernel
theorem dX12_verify_125 : decode cX12_verify 125 = .ok (.bastore, 1) := by decide +kernel
theorem dX12_verify_126 : decode cX12_verify 126 = .ok (.aload_n 0, 1) := by decide +kernel
theorem dX12_verify_127 : decode cX12_verify 127 = .ok (.iload 4, 2) := by decide +kernel
theorem dX12_verify_129 : decode cX12_verify 129 = .ok (.putfield 51, 3) := by decide +kernel
theorem dX12_verify_132 : decode cX12_verify 132 = .ok (.aload_n 0, 1) := by decide +kernel
theorem dX12_verify_133 : decode cX12_verify 133 = .ok (.iload_n 1, 1) := by decide +kernel
theorem dX12_verify_134 : decode cX12_verify 134 = .ok (.iload 4, 2) := by decide +kernel
theorem dX12_verify_136 : decode cX12_verify 136 = .ok (.invokevirtual 142, 3) := by decide +kernel
theorem dX12_verify_139 : decode cX12_verify 139 = .ok (.ifCond .ne 8, 3) := by decide +kernel
theorem dX12_verify_142 : decode cX12_verify 142 = .ok (.aload_n 0, 1) := by decide +kernel
theorem dX12_verify_143 : decode cX12_verify 143 = .ok (.getfield 51, 3) := by decide +kernel
theorem dX12_verify_146 : decode cX12_verify 146 = .ok (.ireturn, 1) := by decide +kernel
theorem dX12_verify_147 : decode cX12_verify 147 = .ok (.aload_n 0, 1) := by decide +kernel
theorem dX12_verify_148 : decode cX12_verify 148 = .ok (.getfield 10, 3) := by decide +kernel
theorem dX12_verify_151 : decode cX12_verify 151 = .ok (.getfield 30, 3) := by decide +kernel
theorem dX12_verify_154 : decode cX12_verify 154 = .ok (.iload_n 1, 1) := by decide +kernel
theorem dX12_verify_155 : decode cX12_verify 155 = .ok (.iaload, 1) := by decide +kernel
theorem dX12_verify_156 : decode cX12_verify 156 = .ok (.istore 4, 2) := by decide +kernel
theorem dX12_verify_158 : decode cX12_verify 158 = .ok (.goto (-56), 3) := by decide +kernel
theorem dX12_verify_161 : decode cX12_verify 161 = .ok (.iinc 4 1, 3) := by decide +kernel
theorem dX12_verify_164 : decode cX12_verify 164 = .ok (.goto (-62), 3) := by decide +kernel
theorem dX12_verify_167 : decode cX12_verify 167 = .ok (.iconst (-1), 1) := by decide +kernel
theorem dX12_verify_168 : decode cX12_verify 168 = .ok (.ireturn, 1) := by decide +kernel
def wp_X12_verify : List Cond := .code yX12_verify cX12_verify 5 (some .int) :: (((([.fieldLink RX12 47 "SteadyMachineModel" "marks" "[Z", .fieldLink RX12 51 "SteadyMachineModel" "bad" "I", .fieldLink RX12 10 "SteadyMachineModel" "image" "LSteadyMachineModel$Image;", .fieldLink RX12 44 "SteadyMachineModel" "now" "[I", .fieldLink RX12 36 "SteadyMachineModel" "top" "I"] ++ (wsV RX12 142 RX12 yX12_look wp_X12_look)) ++ (wsV RX12 126 RX12 yX12_come wp_X12_come)) ++ wsX110) ++ wsX120)
theorem wq_X12_verify : wp_X12_verify.all goodWord = true := wa_c rfl (wa_a (wa_a (wa_a (wa_a (by decide +kernel) (wa_V wq_X12_look)) (wa_V wq_X12_come)) uq_X11) uq_X12)
theorem wt_X12_verify : GoodIn lw_tbl wp_X12_verify := wm_c (List.mem_of_getElem? (i := 1279) (by decide +kernel)) rfl (wm_a (wm_a (wm_a (wm_a (goodIn_r _ [1493, 1496, 1490, 1494, 1495] (by decide +kernel) (by decide +kernel)) (wm_a (goodIn_r _ [1302, 1304, 88, 147] (by decide +kernel) (by decide +kernel)) wt_X12_look)) (wm_a (goodIn_r _ [1280, 1282, 85, 147] (by decide +kernel) (by decide +kernel)) wt_X12_come)) ut_X11) ut_X12)
theorem wg_X12_verify_X12_look_142 : GoodIn wp_X12_verify (wsV RX12 142 RX12 yX12_look wp_X12_look) := goodIn_sub (fun w h => List.mem_cons_of_mem _ (List.mem_append_left _ (List.mem_append_left _ (List.mem_append_left _ (List.mem_append_right _ h))))) (wa_V wq_X12_look)
theorem wg_X12_verify_X12_come_126 : GoodIn wp_X12_verify (wsV RX12 126 RX12 yX12_come wp_X12_come) := goodIn_sub (fun w h => List.mem_cons_of_mem _ (List.mem_append_left _ (List.mem_append_left _ (List.mem_append_right _ h)))) (wa_V wq_X12_come)
theorem wi_X12_verify_X11 : ∀ w ∈ wsX110, w ∈ wp_X12_verify := fun w h => List.mem_cons_of_mem _ (List.mem_append_left _ (List.mem_append_right _ h))
theorem wi_X12_verify_X12 : ∀ w ∈ wsX120, w ∈ wp_X12_verify := fun w h => List.mem_cons_of_mem _ (List.mem_append_right _ h)
set_option maxHeartbeats 4000000 in
set_option maxRecDepth 100000 in
theorem c_X12_verify (l : Launch) (D : va_G) (sz t0 : Nat) (σ : sm_S) (α : sm_A) (p1 : Int32) (K : Int32 → sm_S → Prop) (hF : mp_X12_verify σ p1 K) : Met l yX12_verify wp_X12_verify { frames := 7, cells := 0, slots := 0, locals := 164 } (sm_P sm_wM sm_tM 40 D sz t0 σ α [.ref (α.1 1), .int p1]) (va_Qi K (sm_B sm_wM D α) (sm_a α 40 sz)) 0 0 (sm_a α 40 sz) := by
  refine Met.ofW (cc := cX12_verify) (maxL := 5) (ret := (some .int)) (by decide) rfl ?_
  intro p e s m args below meth c s₁ B hml hv
  obtain ⟨rfl, hsz, hP, hK, hD0, hE⟩ := hv
  have hx := B.exec
  have hb := B.bytes
  have hr := B.returns
  have hts := atoms_spec (ws := wp_X12_verify) B.pre
  have hown : s.vm.findClass RX12 = some m.cls := findClass_of_methodNamed B.named
  have hlocks := B.notSynchronized
  subst hsz
  have hD : sm_D (sm_a α 40 s.heap.size) α 40 := hD0.own
  have hA : ∀ q : Nat, s.heap.size ≤ q → sm_a α 40 s.heap.size q := fun q h => Or.inr h
  generalize hAe : sm_a α 40 s.heap.size = A at hD hA hE ⊢
  have hS : va_S A s.heap s.heap [] := va_S.rf
  have in_X11 : ∀ w ∈ wsX110, w ∈ wp_X12_verify := wi_X12_verify_X11
  have in_X12 : ∀ w ∈ wsX120, w ∈ wp_X12_verify := wi_X12_verify_X12
  have k_0 := hts (.fieldLink RX12 47 "SteadyMachineModel" "marks" "[Z") (by decide +kernel)
  have k_1 := hts (.fieldLink RX12 51 "SteadyMachineModel" "bad" "I") (by decide +kernel)
  have k_2 := hts (.fieldLink RX12 10 "SteadyMachineModel" "image" "LSteadyMachineModel$Image;") (by decide +kernel)
  have k_3 := hts (.fieldLink RX12 44 "SteadyMachineModel" "now" "[I") (by decide +kernel)
  have k_4 := hts (.fieldLink RX12 36 "SteadyMachineModel" "top" "I") (by decide +kernel)
  have hl := lv_entry ([.ref (α.1 1), .int p1]) (n := 5) (Nat.le_of_ble_eq_true rfl)
  rw [lg_entry_eq]
  generalize (lg_sl ([.ref (α.1 1), .int p1]) ++ List.replicate (5 - (lg_sl ([.ref (α.1 1), .int p1])).length) Slot.unset).toArray = ls at hl ⊢
  have hl : lv_has ls 5 [(0, .ref (α.1 1)), (1, .int p1)] := hl
  have B102 : ∀ (n : Nat) (σ : sm_S) (x1 : Int32) (x3 : Int32) (x4 : Int32), mp_X12_verify_102 K n σ x1 x3 x4 → sm_J p l e (headSpec wp_X12_verify { frames := 7, cells := 0, slots := 0, locals := 164 }).room s m ([.ref (α.1 1), .int p1] : List Value).toArray below meth c (MQ below (va_Qi K (sm_B sm_wM D α) A) ([.ref (α.1 1), .int p1] : List Value).toArray s 0 0 A) D A 5 (sm_wM σ α) 102 [(0, .ref (α.1 1)), (1, .int x1), (3, .int x3), (4, .int x4)] [] := by
    intro n102
    induction n102 with
    | zero =>
      intro σ x1 x3 x4 hF
      exact hF.elim
    | succ n102 ih102 =>
      intro σ x1 x3 x4 hF H locs ls hP hS hl
      unfold mp_X12_verify_102 at hF
      refine lv_iload hx hb dX12_verify_102 (lv_at hl 3 rfl) ?_
      refine lv_iload_n hx hb dX12_verify_104 rfl (lv_at hl 2 rfl) ?_
      refine lv_icmp_ge (tgt := 167) hx hb dX12_verify_105 (by decide) (fun h1 => ?_) (fun h1 => ?_)
      · replace hF := hF.1 h1
        refine lv_iconst (v := -1) hx hb dX12_verify_167 (by decide) ?_
        exact W.iret (v := (-1)) hx hb hr (fun t ht hW => ⟨⟨(-1), σ, rfl, hF, (by unfold sm_B; rw [ht]; exact hP)⟩, hS.F ht⟩) hS.2.2 dX12_verify_168
      · replace hF := hF.2 h1
        refine lv_aload_n hx hb dX12_verify_108 rfl (lv_at hl 0 rfl) ?_
        refine va_get (D := D) (ci := 12) (v := .ref (α.1 23)) (C := RX12) (T := TX12) (N := 42) hx hb hts in_X12 hown hK hP 1 (sm_gX12 σ α) rfl 3 (by decide) k_0 (fun _ h9 => h9) rfl dX12_verify_109 ?_
        refine lv_iload hx hb dX12_verify_112 (lv_at hl 3 rfl) ?_
        obtain ⟨h2, hF⟩ := hF
        refine va_zald (n := (σ.2.2.1 23)) (f := (σ.2.2.2.1 23)) hx hb hK hP 23 21 (sm_aM23 σ α) (sm_yM23 α) h2 dX12_verify_114 ?_
        refine lv_if_eq (tgt := 161) hx hb dX12_verify_115 (by decide) (fun h3 => ?_) (fun h3 => ?_)
        · replace hF := hF.1 h3
          obtain ⟨v4, ev4⟩ : ∃ y : Int32, y = x4 + 1 := ⟨_, rfl⟩
          replace hF := hF v4 ev4
          refine lv_iinc (v := v4) (lv' := [(4, .int v4), (0, .ref (α.1 1)), (1, .int x1), (3, .int x3)]) hx hb dX12_verify_161 hl (k := 3) rfl (by rw [ev4]; rfl) (by decide) rfl (fun ls hl => ?_)
          refine lv_goto (tgt := 102) hx hb dX12_verify_164 (by decide) ?_
          exact ih102 σ x1 x3 v4 hF H locs ls hP hS (lv_sub hl [1, 2, 3, 0] rfl)
        · replace hF := hF.2 h3
          refine lv_aload_n hx hb dX12_verify_118 rfl (lv_at hl 0 rfl) ?_
          refine va_get (D := D) (ci := 12) (v := .ref (α.1 23)) (C := RX12) (T := TX12) (N := 42) hx hb hts in_X12 hown hK hP 1 (sm_gX12 σ α) rfl 3 (by decide) k_0 (fun _ h9 => h9) rfl dX12_verify_119 ?_
          refine lv_iload hx hb dX12_verify_122 (lv_at hl 3 rfl) ?_
          refine lv_iconst (v := 0) hx hb dX12_verify_124 (by decide) ?_
          obtain ⟨h5, hF⟩ := hF
          refine va_zast (n := (σ.2.2.1 23)) (f := (σ.2.2.2.1 23)) (x := 0) hx hb hK hP (hD.to (sm_wM_m _ _)) hS 23 21 (sm_aM23 σ α) (sm_yM23 α) h5 dX12_verify_125 (fun H locs hP _ hS => ?_)
          rw [sm_rM23] at hP
          obtain ⟨σ6, eσ6⟩ : ∃ x : sm_S, x = sm_r σ 23 (upd (σ.2.2.2.1 23) x4.toNatClampNeg (vp_nar .boolean 0)) := ⟨_, rfl⟩
          replace hF := hF σ6 eσ6
          rw [← eσ6] at hP
          refine lv_aload_n hx hb dX12_verify_126 rfl (lv_at hl 0 rfl) ?_
          refine lv_iload hx hb dX12_verify_127 (lv_at hl 3 rfl) ?_
          refine va_put (D := D) (ci := 12) (v := .int x4) (ty := .int) (C := RX12) (T := TX12) (N := 42) hx hb hts in_X12 tyX12 tyX12_ok nmX12 hown hK hP (hD.to (sm_wM_m _ _)) hS 1 (sm_gX12 σ6 α) rfl 6 (by decide) k_1 (fun _ h9 => h9) rfl (by decide +kernel) rfl rfl (Nat.le_of_ble_eq_true rfl) dX12_verify_129 (fun H locs hP _ hS => ?_)
          rw [sm_iM10] at hP
          obtain ⟨σ7, eσ7⟩ : ∃ x : sm_S, x = sm_i σ6 10 x4 := ⟨_, rfl⟩
          replace hF := hF σ7 eσ7
          rw [← eσ7] at hP
          refine lv_aload_n hx hb dX12_verify_132 rfl (lv_at hl 0 rfl) ?_
          refine lv_iload_n hx hb dX12_verify_133 rfl (lv_at hl 1 rfl) ?_
          refine lv_iload hx hb dX12_verify_134 (lv_at hl 3 rfl) ?_
          refine sm_vi (As := [.int x1, .int x4]) (rest := []) hP hK hD hE hS hA ⟨hx, hb, hml, hown, hts⟩ hl.1 (c_X12_look l D H.size t0 σ7 α x1 x4 _ hF) (cwV 2 hts wg_X12_verify_X12_look_142 rfl rfl rfl (by decide +kernel) ⟨Nat.le_of_ble_eq_true rfl, Nat.le_of_ble_eq_true rfl⟩) (va_recv hK hP (ci := 12) (q0 := 1) rfl (sm_gX12 σ7 α)) rfl rfl (Nat.le_of_ble_eq_true rfl) dX12_verify_136 ⟨Nat.zero_le _, Nat.zero_le _⟩ (fun r9 σ8 H locs hF hP hS => ?_)
          refine lv_if_ne (tgt := 147) hx hb dX12_verify_139 (by decide) (fun h10 => ?_) (fun h10 => ?_)
          · replace hF := hF.1 h10
            refine lv_aload_n hx hb dX12_verify_147 rfl (lv_at hl 0 rfl) ?_
            refine va_get (D := D) (ci := 12) (v := .ref (α.1 0)) (C := RX12) (T := TX12) (N := 42) hx hb hts in_X12 hown hK hP 1 (sm_gX12 σ8 α) rfl 0 (by decide) k_2 (fun _ h9 => h9) rfl dX12_verify_148 ?_
            refine va_getN (D := D) (ci := 11) (v := .ref (α.1 17)) (C := RX11) (T := TX11) (N := 28) hx hb hts in_X11 hown hK hP 0 (sm_gX11 σ8 α) rfl 22 (by decide) (va_Nw.use rfl (hE.1 (.fieldLinkNest "SteadyMachineModel" 30 "SteadyMachineModel$Image" "codeAt" "[I" "SteadyMachineModel") (by decide +kernel))) (fun _ h9 => h9) rfl dX12_verify_151 ?_
            refine lv_iload_n hx hb dX12_verify_154 rfl (lv_at hl 1 rfl) ?_
            obtain ⟨h11, hF⟩ := hF
            refine va_iald (n := (σ8.2.2.1 17)) (f := (σ8.2.2.2.1 17)) hx hb hK hP 17 15 (sm_aM17 σ8 α) (sm_yM17 α) h11 dX12_verify_155 ?_
            refine lv_topi (fun v12 ev12 => ?_)
            replace hF := hF v12 ev12
            refine lv_istore (lv' := [(4, .int v12), (0, .ref (α.1 1)), (1, .int x1), (3, .int x3)]) hx hb dX12_verify_156 hl (by decide) rfl (fun ls hl => ?_)
            refine lv_goto (tgt := 102) hx hb dX12_verify_158 (by decide) ?_
            exact ih102 σ8 x1 x3 v12 hF H locs ls hP hS (lv_sub hl [1, 2, 3, 0] rfl)
          · replace hF := hF.2 h10
            refine lv_aload_n hx hb dX12_verify_142 rfl (lv_at hl 0 rfl) ?_
            refine va_get (D := D) (ci := 12) (v := .int (σ8.1 10)) (C := RX12) (T := TX12) (N := 42) hx hb hts in_X12 hown hK hP 1 (sm_gX12 σ8 α) rfl 6 (by decide) k_1 (fun _ h9 => h9) rfl dX12_verify_143 ?_
            exact W.iret (v := (σ8.1 10)) hx hb hr (fun t ht hW => ⟨⟨(σ8.1 10), σ8, rfl, hF, (by unfold sm_B; rw [ht]; exact hP)⟩, hS.F ht⟩) hS.2.2 dX12_verify_146
  have B57 : ∀ (L7 : sm_S → Int32 → Int32 → Prop) (hL7 : ∀ (σ : sm_S) (x1 : Int32) (x2 : Int32), L7 σ x1 x2 → sm_J p l e (headSpec wp_X12_verify { frames := 7, cells := 0, slots := 0, locals := 164 }).room s m ([.ref (α.1 1), .int p1] : List Value).toArray below meth c (MQ below (va_Qi K (sm_B sm_wM D α) A) ([.ref (α.1 1), .int p1] : List Value).toArray s 0 0 A) D A 5 (sm_wM σ α) 7 [(0, .ref (α.1 1)), (1, .int x1), (2, .int x2)] []) (σ : sm_S) (x1 : Int32) (x2 : Int32) (y1 : Int32) (y2 : Int32), mp_X12_verify_57 L7 K σ x1 x2 y1 y2 → sm_J p l e (headSpec wp_X12_verify { frames := 7, cells := 0, slots := 0, locals := 164 }).room s m ([.ref (α.1 1), .int p1] : List Value).toArray below meth c (MQ below (va_Qi K (sm_B sm_wM D α) A) ([.ref (α.1 1), .int p1] : List Value).toArray s 0 0 A) D A 5 (sm_wM σ α) 57 [(0, .ref (α.1 1)), (1, .int x1), (2, .int x2)] [.int y2, .int y1, .ref (α.1 24)] := by
    intro L7 hL7 σ x1 x2 y1 y2 hF H locs ls hP hS hl
    unfold mp_X12_verify_57 at hF
    obtain ⟨h13, hF⟩ := hF
    refine va_iast (n := (σ.2.2.1 24)) (f := (σ.2.2.2.1 24)) (x := y2) hx hb hK hP (hD.to (sm_wM_m _ _)) hS 24 22 (sm_aM24 σ α) (sm_yM24 α) h13 dX12_verify_57 (fun H locs hP _ hS => ?_)
    rw [sm_rM24] at hP
    obtain ⟨σ14, eσ14⟩ : ∃ x : sm_S, x = sm_r σ 24 (upd (σ.2.2.2.1 24) y1.toNatClampNeg y2) := ⟨_, rfl⟩
    replace hF := hF σ14 eσ14
    rw [← eσ14] at hP
    obtain ⟨v15, ev15⟩ : ∃ y : Int32, y = x2 + 1 := ⟨_, rfl⟩
    replace hF := hF v15 ev15
    refine lv_iinc (v := v15) (lv' := [(2, .int v15), (0, .ref (α.1 1)), (1, .int x1)]) hx hb dX12_verify_58 hl (k := 2) rfl (by rw [ev15]; rfl) (by decide) rfl (fun ls hl => ?_)
    refine lv_goto (tgt := 7) hx hb dX12_verify_61 (by decide) ?_
    exact hL7 σ14 x1 v15 hF H locs ls hP hS (lv_sub hl [1, 2, 0] rfl)
  have B7 : ∀ (n : Nat) (σ : sm_S) (x1 : Int32) (x2 : Int32), mp_X12_verify_7 K n σ x1 x2 → sm_J p l e (headSpec wp_X12_verify { frames := 7, cells := 0, slots := 0, locals := 164 }).room s m ([.ref (α.1 1), .int p1] : List Value).toArray below meth c (MQ below (va_Qi K (sm_B sm_wM D α) A) ([.ref (α.1 1), .int p1] : List Value).toArray s 0 0 A) D A 5 (sm_wM σ α) 7 [(0, .ref (α.1 1)), (1, .int x1), (2, .int x2)] [] := by
    intro n7
    induction n7 with
    | zero =>
      intro σ x1 x2 hF
      exact hF.elim
    | succ n7 ih7 =>
      intro σ x1 x2 hF H locs ls hP hS hl
      unfold mp_X12_verify_7 at hF
      refine lv_iload_n hx hb dX12_verify_7 rfl (lv_at hl 2 rfl) ?_
      refine lv_aload_n hx hb dX12_verify_8 rfl (lv_at hl 0 rfl) ?_
      refine va_get (D := D) (ci := 12) (v := .ref (α.1 0)) (C := RX12) (T := TX12) (N := 42) hx hb hts in_X12 hown hK hP 1 (sm_gX12 σ α) rfl 0 (by decide) k_2 (fun _ h9 => h9) rfl dX12_verify_9 ?_
      refine va_getN (D := D) (ci := 11) (v := .ref (α.1 15)) (C := RX11) (T := TX11) (N := 28) hx hb hts in_X11 hown hK hP 0 (sm_gX11 σ α) rfl 20 (by decide) (va_Nw.use rfl (hE.1 (.fieldLinkNest "SteadyMachineModel" 27 "SteadyMachineModel$Image" "locals" "[I" "SteadyMachineModel") (by decide +kernel))) (fun _ h9 => h9) rfl dX12_verify_12 ?_
      refine lv_iload_n hx hb dX12_verify_15 rfl (lv_at hl 1 rfl) ?_
      obtain ⟨h16, hF⟩ := hF
      refine va_iald (n := (σ.2.2.1 15)) (f := (σ.2.2.2.1 15)) hx hb hK hP 15 13 (sm_aM15 σ α) (sm_yM15 α) h16 dX12_verify_16 ?_
      refine lv_icmp_ge (tgt := 64) hx hb dX12_verify_17 (by decide) (fun h17 => ?_) (fun h17 => ?_)
      · replace hF := hF.1 h17
        refine lv_aload_n hx hb dX12_verify_64 rfl (lv_at hl 0 rfl) ?_
        refine lv_iload_n hx hb dX12_verify_65 rfl (lv_at hl 1 rfl) ?_
        refine lv_iconst (v := 0) hx hb dX12_verify_66 (by decide) ?_
        refine sm_vi (As := [.int x1, .int 0]) (rest := []) hP hK hD hE hS hA ⟨hx, hb, hml, hown, hts⟩ hl.1 (c_X12_come l D H.size t0 σ α x1 0 _ hF) (cwV 2 hts wg_X12_verify_X12_come_126 rfl rfl rfl (by decide +kernel) ⟨Nat.le_of_ble_eq_true rfl, Nat.le_of_ble_eq_true rfl⟩) (va_recv hK hP (ci := 12) (q0 := 1) rfl (sm_gX12 σ α)) rfl rfl (Nat.le_of_ble_eq_true rfl) dX12_verify_67 ⟨Nat.zero_le _, Nat.zero_le _⟩ (fun r19 σ18 H locs hF hP hS => ?_)
        refine lv_istore_n (lv' := [(2, .int r19), (0, .ref (α.1 1)), (1, .int x1)]) hx hb dX12_verify_70 rfl hl (by decide) rfl (fun ls hl => ?_)
        refine lv_aload_n hx hb dX12_verify_71 rfl (lv_at hl 1 rfl) ?_
        refine va_get (D := D) (ci := 12) (v := .ref (α.1 0)) (C := RX12) (T := TX12) (N := 42) hx hb hts in_X12 hown hK hP 1 (sm_gX12 σ18 α) rfl 0 (by decide) k_2 (fun _ h9 => h9) rfl dX12_verify_72 ?_
        refine va_getN (D := D) (ci := 11) (v := .ref (α.1 17)) (C := RX11) (T := TX11) (N := 28) hx hb hts in_X11 hown hK hP 0 (sm_gX11 σ18 α) rfl 22 (by decide) (va_Nw.use rfl (hE.1 (.fieldLinkNest "SteadyMachineModel" 30 "SteadyMachineModel$Image" "codeAt" "[I" "SteadyMachineModel") (by decide +kernel))) (fun _ h9 => h9) rfl dX12_verify_75 ?_
        refine lv_iload_n hx hb dX12_verify_78 rfl (lv_at hl 2 rfl) ?_
        obtain ⟨h20, hF⟩ := hF
        refine va_iald (n := (σ18.2.2.1 17)) (f := (σ18.2.2.2.1 17)) hx hb hK hP 17 15 (sm_aM17 σ18 α) (sm_yM17 α) h20 dX12_verify_79 ?_
        refine lv_aload_n hx hb dX12_verify_80 rfl (lv_at hl 1 rfl) ?_
        refine va_get (D := D) (ci := 12) (v := .ref (α.1 0)) (C := RX12) (T := TX12) (N := 42) hx hb hts in_X12 hown hK hP 1 (sm_gX12 σ18 α) rfl 0 (by decide) k_2 (fun _ h9 => h9) rfl dX12_verify_81 ?_
        refine va_getN (D := D) (ci := 11) (v := .ref (α.1 18)) (C := RX11) (T := TX11) (N := 28) hx hb hts in_X11 hown hK hP 0 (sm_gX11 σ18 α) rfl 23 (by decide) (va_Nw.use rfl (hE.1 (.fieldLinkNest "SteadyMachineModel" 24 "SteadyMachineModel$Image" "codeSizes" "[I" "SteadyMachineModel") (by decide +kernel))) (fun _ h9 => h9) rfl dX12_verify_84 ?_
        refine lv_iload_n hx hb dX12_verify_87 rfl (lv_at hl 2 rfl) ?_
        obtain ⟨h21, hF⟩ := hF
        refine va_iald (n := (σ18.2.2.1 18)) (f := (σ18.2.2.2.1 18)) hx hb hK hP 18 16 (sm_aM18 σ18 α) (sm_yM18 α) h21 dX12_verify_88 ?_
        refine lv_iadd hx hb dX12_verify_89 ?_
        refine lv_topi (fun v22 ev22 => ?_)
        replace hF := hF v22 ev22
        refine lv_istore_n (lv' := [(3, .int v22), (2, .int r19), (0, .ref (α.1 1)), (1, .int x1)]) hx hb dX12_verify_90 rfl hl (by decide) rfl (fun ls hl => ?_)
        refine lv_aload_n hx hb dX12_verify_91 rfl (lv_at hl 2 rfl) ?_
        refine va_get (D := D) (ci := 12) (v := .ref (α.1 0)) (C := RX12) (T := TX12) (N := 42) hx hb hts in_X12 hown hK hP 1 (sm_gX12 σ18 α) rfl 0 (by decide) k_2 (fun _ h9 => h9) rfl dX12_verify_92 ?_
        refine va_getN (D := D) (ci := 11) (v := .ref (α.1 17)) (C := RX11) (T := TX11) (N := 28) hx hb hts in_X11 hown hK hP 0 (sm_gX11 σ18 α) rfl 22 (by decide) (va_Nw.use rfl (hE.1 (.fieldLinkNest "SteadyMachineModel" 30 "SteadyMachineModel$Image" "codeAt" "[I" "SteadyMachineModel") (by decide +kernel))) (fun _ h9 => h9) rfl dX12_verify_95 ?_
        refine lv_iload_n hx hb dX12_verify_98 rfl (lv_at hl 3 rfl) ?_
        obtain ⟨h23, hF⟩ := hF
        refine va_iald (n := (σ18.2.2.1 17)) (f := (σ18.2.2.2.1 17)) hx hb hK hP 17 15 (sm_aM17 σ18 α) (sm_yM17 α) h23 dX12_verify_99 ?_
        refine lv_topi (fun v24 ev24 => ?_)
        replace hF := hF v24 ev24
        refine lv_istore (lv' := [(4, .int v24), (3, .int v22), (2, .int r19), (0, .ref (α.1 1)), (1, .int x1)]) hx hb dX12_verify_100 hl (by decide) rfl (fun ls hl => ?_)
        obtain ⟨n102, hF⟩ := hF
        exact B102 n102 σ18 x1 v22 v24 hF H locs ls hP hS (lv_sub hl [3, 4, 1, 0] rfl)
      · replace hF := hF.2 h17
        refine lv_aload_n hx hb dX12_verify_20 rfl (lv_at hl 0 rfl) ?_
        refine va_get (D := D) (ci := 12) (v := .ref (α.1 24)) (C := RX12) (T := TX12) (N := 42) hx hb hts in_X12 hown hK hP 1 (sm_gX12 σ α) rfl 4 (by decide) k_3 (fun _ h9 => h9) rfl dX12_verify_21 ?_
        refine lv_iload_n hx hb dX12_verify_24 rfl (lv_at hl 2 rfl) ?_
        refine lv_iload_n hx hb dX12_verify_25 rfl (lv_at hl 2 rfl) ?_
        refine lv_aload_n hx hb dX12_verify_26 rfl (lv_at hl 0 rfl) ?_
        refine va_get (D := D) (ci := 12) (v := .ref (α.1 0)) (C := RX12) (T := TX12) (N := 42) hx hb hts in_X12 hown hK hP 1 (sm_gX12 σ α) rfl 0 (by decide) k_2 (fun _ h9 => h9) rfl dX12_verify_27 ?_
        refine va_getN (D := D) (ci := 11) (v := .ref (α.1 12)) (C := RX11) (T := TX11) (N := 28) hx hb hts in_X11 hown hK hP 0 (sm_gX11 σ α) rfl 17 (by decide) (va_Nw.use rfl (hE.1 (.fieldLinkNest "SteadyMachineModel" 68 "SteadyMachineModel$Image" "parameterCounts" "[I" "SteadyMachineModel") (by decide +kernel))) (fun _ h9 => h9) rfl dX12_verify_30 ?_
        refine lv_iload_n hx hb dX12_verify_33 rfl (lv_at hl 1 rfl) ?_
        obtain ⟨h25, hF⟩ := hF
        refine va_iald (n := (σ.2.2.1 12)) (f := (σ.2.2.2.1 12)) hx hb hK hP 12 10 (sm_aM12 σ α) (sm_yM12 α) h25 dX12_verify_34 ?_
        refine lv_icmp_ge (tgt := 55) hx hb dX12_verify_35 (by decide) (fun h26 => ?_) (fun h26 => ?_)
        · replace hF := hF.1 h26
          refine lv_bipush (v := 99) hx hb dX12_verify_55 (by decide) ?_
          exact B57 (mp_X12_verify_7 K n7) ih7 σ x1 x2 x2 99 hF H locs ls hP hS (lv_sub hl [0, 1, 2] rfl)
        · replace hF := hF.2 h26
          refine lv_aload_n hx hb dX12_verify_38 rfl (lv_at hl 0 rfl) ?_
          refine va_get (D := D) (ci := 12) (v := .ref (α.1 0)) (C := RX12) (T := TX12) (N := 42) hx hb hts in_X12 hown hK hP 1 (sm_gX12 σ α) rfl 0 (by decide) k_2 (fun _ h9 => h9) rfl dX12_verify_39 ?_
          refine va_getN (D := D) (ci := 11) (v := .ref (α.1 13)) (C := RX11) (T := TX11) (N := 28) hx hb hts in_X11 hown hK hP 0 (sm_gX11 σ α) rfl 18 (by decide) (va_Nw.use rfl (hE.1 (.fieldLinkNest "SteadyMachineModel" 71 "SteadyMachineModel$Image" "parameterTypes" "[I" "SteadyMachineModel") (by decide +kernel))) (fun _ h9 => h9) rfl dX12_verify_42 ?_
          refine lv_bipush (v := 8) hx hb dX12_verify_45 (by decide) ?_
          refine lv_iload_n hx hb dX12_verify_47 rfl (lv_at hl 1 rfl) ?_
          refine lv_imul hx hb dX12_verify_48 ?_
          refine lv_iload_n hx hb dX12_verify_49 rfl (lv_at hl 2 rfl) ?_
          refine lv_iadd hx hb dX12_verify_50 ?_
          obtain ⟨h27, hF⟩ := hF
          refine va_iald (n := (σ.2.2.1 13)) (f := (σ.2.2.2.1 13)) hx hb hK hP 13 11 (sm_aM13 σ α) (sm_yM13 α) h27 dX12_verify_51 ?_
          refine lv_goto (tgt := 57) hx hb dX12_verify_52 (by decide) ?_
          exact B57 (mp_X12_verify_7 K n7) ih7 σ x1 x2 x2 ((σ.2.2.2.1 13) ((8 * x1) + x2).toNatClampNeg) hF H locs ls hP hS (lv_sub hl [0, 1, 2] rfl)
  unfold mp_X12_verify at hF
  revert hP hS
  generalize hLo : ([] : List Loc) = locs
  suffices h9 : ∀ (H : Heap) (locs : List Loc), va_P D vwCl (sm_wM σ α) H → va_S A s.heap H locs → W p l e (headSpec wp_X12_verify { frames := 7, cells := 0, slots := 0, locals := 164 }).room s m ([.ref (α.1 1), .int p1] : List Value).toArray below meth c H locs 0 0 (MQ below (va_Qi K (sm_B sm_wM D α) A) ([.ref (α.1 1), .int p1] : List Value).toArray s 0 0 A) (F0 m 0 ls []) from fun hP hS => h9 s.heap locs hP hS
  intro H locs hP hS
  refine lv_aload_n hx hb dX12_verify_0 rfl (lv_at hl 0 rfl) ?_
  refine lv_iconst (v := 0) hx hb dX12_verify_1 (by decide) ?_
  refine va_put (D := D) (ci := 12) (v := .int 0) (ty := .int) (C := RX12) (T := TX12) (N := 42) hx hb hts in_X12 tyX12 tyX12_ok nmX12 hown hK hP (hD.to (sm_wM_m _ _)) hS 1 (sm_gX12 σ α) rfl 5 (by decide) k_4 (fun _ h9 => h9) rfl (by decide +kernel) rfl rfl (Nat.le_of_ble_eq_true rfl) dX12_verify_2 (fun H locs hP _ hS => ?_)
  rw [sm_iM9] at hP
  obtain ⟨σ28, eσ28⟩ : ∃ x : sm_S, x = sm_i σ 9 0 := ⟨_, rfl⟩
  replace hF := hF σ28 eσ28
  rw [← eσ28] at hP
  refine lv_iconst (v := 0) hx hb dX12_verify_5 (by decide) ?_
  refine lv_istore_n (lv' := [(2, .int 0), (0, .ref (α.1 1)), (1, .int p1)]) hx hb dX12_verify_6 rfl hl (by decide) rfl (fun ls hl => ?_)
  obtain ⟨n7, hF⟩ := hF
  exact B7 n7 σ28 p1 0 hF H locs ls hP hS (lv_sub hl [1, 2, 0] rfl)
theorem dX12_feed_0 : decode cX12_feed 0 = .ok (.aload_n 0, 1) := by decide +kernel
theorem dX12_feed_1 : decode cX12_feed 1 = .ok (.getfield 10, 3) := by decide +kernel
theorem dX12_feed_4 : decode cX12_feed 4 = .ok (.iload_n 1, 1) := by decide +kernel
theorem dX12_feed_5 : decode cX12_feed 5 = .ok (.iload_n 2, 1) := by decide +kernel
theorem dX12_feed_6 : decode cX12_feed 6 = .ok (.iload_n 3, 1) := by decide +kernel
theorem dX12_feed_7 : decode cX12_feed 7 = .ok (.iload 4, 2) := by decide +kernel
theorem dX12_feed_9 : decode cX12_feed 9 = .ok (.iload 5, 2) := by decide +kernel
theorem dX12_feed_11 : decode cX12_feed 11 = .ok (.invokevirtual 145, 3) := by decide +kernel
theorem dX12_feed_14 : decode cX12_feed 14 = .ok (.ireturn, 1) := by decide +kernel
def wp_X12_feed : List Cond := .code yX12_feed cX12_feed 6 (some .int) :: (([.fieldLink RX12 10 "SteadyMachineModel" "image" "LSteadyMachineModel$Image;"] ++ (wsV RX12 145 RX11 yX11_feed wp_X11_feed)) ++ wsX120)
theorem wq_X12_feed : wp_X12_feed.all goodWord = true := wa_c rfl (wa_a (wa_a (by decide +kernel) (wa_V wq_X11_feed)) uq_X12)
theorem wt_X12_feed : GoodIn lw_tbl wp_X12_feed := wm_c (List.mem_of_getElem? (i := 1194) (by decide +kernel)) rfl (wm_a (wm_a (goodIn_r _ [1490] (by decide +kernel) (by decide +kernel)) (wm_a (goodIn_r _ [1195, 1196, 1197, 148] (by decide +kernel) (by decide +kernel)) wt_X11_feed)) ut_X12)
theorem wg_X12_feed_X11_feed_145 : GoodIn wp_X12_feed (wsV RX12 145 RX11 yX11_feed wp_X11_feed) := goodIn_sub (fun w h => List.mem_cons_of_mem _ (List.mem_append_left _ (List.mem_append_right _ h))) (wa_V wq_X11_feed)
theorem wi_X12_feed_X12 : ∀ w ∈ wsX120, w ∈ wp_X12_feed := fun w h => List.mem_cons_of_mem _ (List.mem_append_right _ h)
set_option maxHeartbeats 4000000 in
set_option maxRecDepth 100000 in
theorem c_X12_feed (l : Launch) (D : va_G) (sz t0 : Nat) (σ : sm_S) (α : sm_A) (p1 : Int32) (p2 : Int32) (p3 : Int32) (p4 : Int32) (p5 : Int32) (K : Int32 → sm_S → Prop) (hF : mp_X12_feed σ p1 p2 p3 p4 p5 K) : Met l yX12_feed wp_X12_feed { frames := 1, cells := 0, slots := 0, locals := 27 } (sm_P sm_wM sm_tM 40 D sz t0 σ α [.ref (α.1 1), .int p1, .int p2, .int p3, .int p4, .int p5]) (va_Qi K (sm_B sm_wM D α) (sm_a α 40 sz)) 0 0 (sm_a α 40 sz) := by
  refine Met.ofW (cc := cX12_feed) (maxL := 6) (ret := (some .int)) (by decide) rfl ?_
  intro p e s m args below meth c s₁ B hml hv
  obtain ⟨rfl, hsz, hP, hK, hD0, hE⟩ := hv
  have hx := B.exec
  have hb := B.bytes
  have hr := B.returns
  have hts := atoms_spec (ws := wp_X12_feed) B.pre
  have hown : s.vm.findClass RX12 = some m.cls := findClass_of_methodNamed B.named
  have hlocks := B.notSynchronized
  subst hsz
  have hD : sm_D (sm_a α 40 s.heap.size) α 40 := hD0.own
  have hA : ∀ q : Nat, s.heap.size ≤ q → sm_a α 40 s.heap.size q := fun q h => Or.inr h
  generalize hAe : sm_a α 40 s.heap.size = A at hD hA hE ⊢
  have hS : va_S A s.heap s.heap [] := va_S.rf
  have in_X12 : ∀ w ∈ wsX120, w ∈ wp_X12_feed := wi_X12_feed_X12
  have k_0 := hts (.fieldLink RX12 10 "SteadyMachineModel" "image" "LSteadyMachineModel$Image;") (by decide +kernel)
  have hl := lv_entry ([.ref (α.1 1), .int p1, .int p2, .int p3, .int p4, .int p5]) (n := 6) (Nat.le_of_ble_eq_true rfl)
  rw [lg_entry_eq]
  generalize (lg_sl ([.ref (α.1 1), .int p1, .int p2, .int p3, .int p4, .int p5]) ++ List.replicate (6 - (lg_sl ([.ref (α.1 1), .int p1, .int p2, .int p3, .int p4, .int p5])).length) Slot.unset).toArray = ls at hl ⊢
  have hl : lv_has ls 6 [(0, .ref (α.1 1)), (1, .int p1), (2, .int p2), (3, .int p3), (4, .int p4), (5, .int p5)] := hl
  unfold mp_X12_feed at hF
  revert hP hS
  generalize hLo : ([] : List Loc) = locs
  suffices h9 : ∀ (H : Heap) (locs : List Loc), va_P D vwCl (sm_wM σ α) H → va_S A s.heap H locs → W p l e (headSpec wp_X12_feed { frames := 1, cells := 0, slots := 0, locals := 27 }).room s m ([.ref (α.1 1), .int p1, .int p2, .int p3, .int p4, .int p5] : List Value).toArray below meth c H locs 0 0 (MQ below (va_Qi K (sm_B sm_wM D α) A) ([.ref (α.1 1), .int p1, .int p2, .int p3, .int p4, .int p5] : List Value).toArray s 0 0 A) (F0 m 0 ls []) from fun hP hS => h9 s.heap locs hP hS
  intro H locs hP hS
  refine lv_aload_n hx hb dX12_feed_0 rfl (lv_at hl 0 rfl) ?_
  refine va_get (D := D) (ci := 12) (v := .ref (α.1 0)) (C := RX12) (T := TX12) (N := 42) hx hb hts in_X12 hown hK hP 1 (sm_gX12 σ α) rfl 0 (by decide) k_0 (fun _ h9 => h9) rfl dX12_feed_1 ?_
  refine lv_iload_n hx hb dX12_feed_4 rfl (lv_at hl 1 rfl) ?_
  refine lv_iload_n hx hb dX12_feed_5 rfl (lv_at hl 2 rfl) ?_
  refine lv_iload_n hx hb dX12_feed_6 rfl (lv_at hl 3 rfl) ?_
  refine lv_iload hx hb dX12_feed_7 (lv_at hl 4 rfl) ?_
  refine lv_iload hx hb dX12_feed_9 (lv_at hl 5 rfl) ?_
  refine sm_vi (As := [.int p1, .int p2, .int p3, .int p4, .int p5]) (rest := []) hP hK hD hE hS hA ⟨hx, hb, hml, hown, hts⟩ hl.1 (c_X11_feed l D H.size t0 σ α p1 p2 p3 p4 p5 _ hF) (cwV 5 hts wg_X12_feed_X11_feed_145 rfl rfl rfl (by decide +kernel) ⟨Nat.le_of_ble_eq_true rfl, Nat.le_of_ble_eq_true rfl⟩) (va_recv hK hP (ci := 11) (q0 := 0) rfl (sm_gX11 σ α)) rfl rfl (Nat.le_of_ble_eq_true rfl) dX12_feed_11 ⟨Nat.zero_le _, Nat.zero_le _⟩ (fun r2 σ1 H locs hF hP hS => ?_)
  exact W.iret (v := r2) hx hb hr (fun t ht hW => ⟨⟨r2, σ1, rfl, hF, (by unfold sm_B; rw [ht]; exact hP)⟩, hS.F ht⟩) hS.2.2 dX12_feed_14
theorem dX12_end_0 : decode cX12_end 0 = .ok (.iload_n 1, 1) := by decide +kernel
theorem dX12_end_1 : decode cX12_end 1 = .ok (.ifCond .lt 14, 3) := by decide +kernel
theorem dX12_end_4 : decode cX12_end 4 = .ok (.iload_n 1, 1) := by decide +kernel
theorem dX12_end_5 : decode cX12_end 5 = .ok (.aload_n 0, 1) := by decide +kernel
theorem dX12_end_6 : decode cX12_end 6 = .ok (.getfield 10, 3) := by decide +kernel
theorem dX12_end_9 : decode cX12_end 9 = .ok (.getfield 149, 3) := by decide +kernel
theorem dX12_end_12 : decode cX12_end 12 = .ok (.if_icmp .le 13, 3) := by decide +kernel
theorem dX12_end_15 : decode cX12_end 15 = .ok (.aload_n 0, 1) := by decide +kernel
theorem dX12_end_16 : decode cX12_end 16 = .ok (.getfield 10, 3) := by decide +kernel
theorem dX12_end_19 : decode cX12_end 19 = .ok (.iconst 0, 1) := by decide +kernel
theorem dX12_end_20 : decode cX12_end 20 = .ok (.putfield 149, 3) := by decide +kernel
theorem dX12_end_23 : decode cX12_end 23 = .ok (.iconst (-1), 1) := by decide +kernel
theorem dX12_end_24 : decode cX12_end 24 = .ok (.ireturn, 1) := by decide +kernel
theorem dX12_end_25 : decode cX12_end 25 = .ok (.aload_n 0, 1) := by decide +kernel
theorem dX12_end_26 : decode cX12_end 26 = .ok (.iconst 0, 1) := by decide +kernel
theorem dX12_end_27 : decode cX12_end 27 = .ok (.putfield 152, 3) := by decide +kernel
theorem dX12_end_30 : decode cX12_end 30 = .ok (.aload_n 0, 1) := by decide +kernel
theorem dX12_end_31 : decode cX12_end 31 = .ok (.getfield 10, 3) := by decide +kernel
theorem dX12_end_34 : decode cX12_end 34 = .ok (.iload_n 1, 1) := by decide +kernel
theorem dX12_end_35 : decode cX12_end 35 = .ok (.invokevirtual 155, 3) := by decide +kernel
theorem dX12_end_38 : decode cX12_end 38 = .ok (.istore_n 2, 1) := by decide +kernel
theorem dX12_end_39 : decode cX12_end 39 = .ok (.iload_n 2, 1) := by decide +kernel
theorem dX12_end_40 : decode cX12_end 40 = .ok (.ifCond .ge 5, 3) := by decide +kernel
theorem dX12_end_43 : decode cX12_end 43 = .ok (.iload_n 2, 1) := by decide +kernel
theorem dX12_end_44 : decode cX12_end 44 = .ok (.ireturn, 1) := by decide +kernel
theorem dX12_end_45 : decode cX12_end 45 = .ok (.iconst 0, 1) := by decide +kernel
theorem dX12_end_46 : decode cX12_end 46 = .ok (.istore_n 3, 1) := by decide +kernel
theorem dX12_end_47 : decode cX12_end 47 = .ok (.iload_n 3, 1) := by decide +kernel
theorem dX12_end_48 : decode cX12_end 48 = .ok (.sipush 8000, 3) := by decide +kernel
theorem dX12_end_51 : decode cX12_end 51 = .ok (.if_icmp .ge 23, 3) := by decide +kernel
theorem dX12_end_54 : decode cX12_end 54 = .ok (.aload_n 0, 1) := by decide +kernel
theorem dX12_end_55 : decode cX12_end 55 = .ok (.getfield 33, 3) := by decide +kernel
theorem dX12_end_58 : decode cX12_end 58 = .ok (.iload_n 3, 1) := by decide +kernel
theorem dX12_end_59 : decode cX12_end 59 = .ok (.iconst (-1), 1) := by decide +kernel
theorem dX12_end_60 : decode cX12_end 60 = .ok (.iastore, 1) := by decide +kernel
theorem dX12_end_61 : decode cX12_end 61 = .ok (.aload_n 0, 1) := by decide +kernel
theorem dX12_end_62 : decode cX12_end 62 = .ok (.getfield 47, 3) := by decide +kernel
theorem dX12_end_65 : decode cX12_end 65 = .ok (.iload_n 3, 1) := by decide +kernel
theorem dX12_end_66 : decode cX12_end 66 = .ok (.iconst 0, 1) := by decide +kernel
theorem dX12_end_67 : decode cX12_end 67 = .ok (.bastore, 1) := by decide +kernel
theorem dX12_end_68 : decode cX12_end 68 = .ok (.iinc 3 1, 3) := by decide +kernel
theorem dX12_end_71 : decode cX12_end 71 = .ok (.goto (-24), 3) := by decide +kernel
theorem dX12_end_74 : decode cX12_end 74 = .ok (.iconst 0, 1) := by decide +kernel
theorem dX12_end_75 : decode cX12_end 75 = .ok (.istore_n 3, 1) := by decide +kernel
theorem dX12_end_76 : decode cX12_end 76 = .ok (.iload_n 3, 1) := by decide +kernel
theorem dX12_end_77 : decode cX12_end 77 = .ok (.aload_n 0, 1) := by decide +kernel
theorem dX12_end_78 : decode cX12_end 78 = .ok (.getfield 10, 3) := by decide +kernel
theorem dX12_end_81 : decode cX12_end 81 = .ok (.getfield 158, 3) := by decide +kernel
theorem dX12_end_84 : decode cX12_end 84 = .ok (.if_icmp .ge 37, 3) := by decide +kernel
theorem dX12_end_87 : decode cX12_end 87 = .ok (.aload_n 0, 1) := by decide +kernel
theorem dX12_end_88 : decode cX12_end 88 = .ok (.iload_n 3, 1) := by decide +kernel
theorem dX12_end_89 : decode cX12_end 89 = .ok (.invokevirtual 161, 3) := by decide +kernel
theorem dX12_end_92 : decode cX12_end 92 = .ok (.istore 4, 2) := by decide +kernel
theorem dX12_end_94 : decode cX12_end 94 = .ok (.iload 4, 2) := by decide +kernel
theorem dX12_end_96 : decode cX12_end 96 = .ok (.iconst (-1), 1) := by decide +kernel
theorem dX12_end_97 : decode cX12_end 97 = .ok (.if_icmp .eq 18, 3) := by decide +kernel
theorem dX12_end_100 : decode cX12_end 100 = .ok (.aload_n 0, 1) := by decide +kernel
theorem dX12_end_101 : decode cX12_end 101 = .ok (.getfield 10, 3) := by decide +kernel
theorem dX12_end_104 : decode cX12_end 104 = .ok (.iconst 0, 1) := by decide +kernel
theorem dX12_end_105 : decode cX12_end 105 = .ok (.putfield 164, 3) := by decide +kernel
theorem dX12_end_108 : decode cX12_end 108 = .ok (.sipush (-10003), 3) := by decide +kernel
theorem dX12_end_111 : decode cX12_end 111 = .ok (.iload 4, 2) := by decide +kernel
theorem dX12_end_113 : decode cX12_end 113 = .ok (.isub, 1) := by decide +kernel
theorem dX12_end_114 : decode cX12_end 114 = .ok (.ireturn, 1) := by decide +kernel
theorem dX12_end_115 : decode cX12_end 115 = .ok (.iinc 3 1, 3) := by decide +kernel
theorem dX12_end_118 : decode cX12_end 118 = .ok (.goto (-42), 3) := by decide +kernel
theorem dX12_end_121 : decode cX12_end 121 = .ok (.iload_n 2, 1) := by decide +kernel
theorem dX12_end_122 : decode cX12_end 122 = .ok (.ireturn, 1) := by decide +kernel
def wp_X12_end : List Cond := .code yX12_end cX12_end 5 (some .int) :: (((([.fieldLink RX12 10 "SteadyMachineModel" "image" "LSteadyMachineModel$Image;", .fieldLink RX12 33 "SteadyMachineModel" "high" "[I", .fieldLink RX12 47 "SteadyMachineModel" "marks" "[Z", .fieldLink RX12 152 "SteadyMachineModel" "state" "I"] ++ (wsV RX12 161 RX12 yX12_verify wp_X12_verify)) ++ (wsV RX12 155 RX11 yX11_end wp_X11_end)) ++ wsX110) ++ wsX120)
theorem wq_X12_end : wp_X12_end.all goodWord = true := wa_c rfl (wa_a (wa_a (wa_a (wa_a (by decide +kernel) (wa_V wq_X12_verify)) (wa_V wq_X11_end)) uq_X11) uq_X12)
theorem wt_X12_end : GoodIn lw_tbl wp_X12_end := wm_c (List.mem_of_getElem? (i := 1202) (by decide +kernel)) rfl (wm_a (wm_a (wm_a (wm_a (goodIn_r _ [1490, 1491, 1493, 1516] (by decide +kernel) (by decide +kernel)) (wm_a (goodIn_r _ [1275, 1277, 84, 147] (by decide +kernel) (by decide +kernel)) wt_X12_verify)) (wm_a (goodIn_r _ [1203, 1204, 1205, 148] (by decide +kernel) (by decide +kernel)) wt_X11_end)) ut_X11) ut_X12)
theorem wg_X12_end_X12_verify_161 : GoodIn wp_X12_end (wsV RX12 161 RX12 yX12_verify wp_X12_verify) := goodIn_sub (fun w h => List.mem_cons_of_mem _ (List.mem_append_left _ (List.mem_append_left _ (List.mem_append_left _ (List.mem_append_right _ h))))) (wa_V wq_X12_verify)
theorem wg_X12_end_X11_end_155 : GoodIn wp_X12_end (wsV RX12 155 RX11 yX11_end wp_X11_end) := goodIn_sub (fun w h => List.mem_cons_of_mem _ (List.mem_append_left _ (List.mem_append_left _ (List.mem_append_right _ h)))) (wa_V wq_X11_end)
theorem wi_X12_end_X11 : ∀ w ∈ wsX110, w ∈ wp_X12_end := fun w h => List.mem_cons_of_mem _ (List.mem_append_left _ (List.mem_append_right _ h))
theorem wi_X12_end_X12 : ∀ w ∈ wsX120, w ∈ wp_X12_end := fun w h => List.mem_cons_of_mem _ (List.mem_append_right _ h)
set_option maxHeartbeats 4000000 in
set_option maxRecDepth 100000 in
theorem c_X12_end (l : Launch) (D : va_G) (sz t0 : Nat) (σ : sm_S) (α : sm_A) (p1 : Int32) (K : Int32 → sm_S → Prop) (hF : mp_X12_end σ p1 K) : Met l yX12_end wp_X12_end { frames := 8, cells := 0, slots := 0, locals := 188 } (sm_P sm_wM sm_tM 40 D sz t0 σ α [.ref (α.1 1), .int p1]) (va_Qi K (sm_B sm_wM D α) (sm_a α 40 sz)) 0 0 (sm_a α 40 sz) := by
  refine Met.ofW (cc := cX12_end) (maxL := 5) (ret := (some .int)) (by decide) rfl ?_
  intro p e s m args below meth c s₁ B hml hv
  obtain ⟨rfl, hsz, hP, hK, hD0, hE⟩ := hv
  have hx := B.exec
  have hb := B.bytes
  have hr := B.returns
  have hts := atoms_spec (ws := wp_X12_end) B.pre
  have hown : s.vm.findClass RX12 = some m.cls := findClass_of_methodNamed B.named
  have hlocks := B.notSynchronized
  subst hsz
  have hD : sm_D (sm_a α 40 s.heap.size) α 40 := hD0.own
  have hA : ∀ q : Nat, s.heap.size ≤ q → sm_a α 40 s.heap.size q := fun q h => Or.inr h
  generalize hAe : sm_a α 40 s.heap.size = A at hD hA hE ⊢
  have hS : va_S A s.heap s.heap [] := va_S.rf
  have in_X11 : ∀ w ∈ wsX110, w ∈ wp_X12_end := wi_X12_end_X11
  have in_X12 : ∀ w ∈ wsX120, w ∈ wp_X12_end := wi_X12_end_X12
  have k_0 := hts (.fieldLink RX12 10 "SteadyMachineModel" "image" "LSteadyMachineModel$Image;") (by decide +kernel)
  have k_1 := hts (.fieldLink RX12 33 "SteadyMachineModel" "high" "[I") (by decide +kernel)
  have k_2 := hts (.fieldLink RX12 47 "SteadyMachineModel" "marks" "[Z") (by decide +kernel)
  have k_3 := hts (.fieldLink RX12 152 "SteadyMachineModel" "state" "I") (by decide +kernel)
  have hl := lv_entry ([.ref (α.1 1), .int p1]) (n := 5) (Nat.le_of_ble_eq_true rfl)
  rw [lg_entry_eq]
  generalize (lg_sl ([.ref (α.1 1), .int p1]) ++ List.replicate (5 - (lg_sl ([.ref (α.1 1), .int p1])).length) Slot.unset).toArray = ls at hl ⊢
  have hl : lv_has ls 5 [(0, .ref (α.1 1)), (1, .int p1)] := hl
  have B76 : ∀ (n : Nat) (σ : sm_S) (x2 : Int32) (x3 : Int32), mp_X12_end_76 K n σ x2 x3 → sm_J p l e (headSpec wp_X12_end { frames := 8, cells := 0, slots := 0, locals := 188 }).room s m ([.ref (α.1 1), .int p1] : List Value).toArray below meth c (MQ below (va_Qi K (sm_B sm_wM D α) A) ([.ref (α.1 1), .int p1] : List Value).toArray s 0 0 A) D A 5 (sm_wM σ α) 76 [(0, .ref (α.1 1)), (2, .int x2), (3, .int x3)] [] := by
    intro n76
    induction n76 with
    | zero =>
      intro σ x2 x3 hF
      exact hF.elim
    | succ n76 ih76 =>
      intro σ x2 x3 hF H locs ls hP hS hl
      unfold mp_X12_end_76 at hF
      refine lv_iload_n hx hb dX12_end_76 rfl (lv_at hl 2 rfl) ?_
      refine lv_aload_n hx hb dX12_end_77 rfl (lv_at hl 0 rfl) ?_
      refine va_get (D := D) (ci := 12) (v := .ref (α.1 0)) (C := RX12) (T := TX12) (N := 42) hx hb hts in_X12 hown hK hP 1 (sm_gX12 σ α) rfl 0 (by decide) k_0 (fun _ h9 => h9) rfl dX12_end_78 ?_
      refine va_getN (D := D) (ci := 11) (v := .int (σ.1 6)) (C := RX11) (T := TX11) (N := 28) hx hb hts in_X11 hown hK hP 0 (sm_gX11 σ α) rfl 15 (by decide) (va_Nw.use rfl (hE.1 (.fieldLinkNest "SteadyMachineModel" 158 "SteadyMachineModel$Image" "methods" "I" "SteadyMachineModel") (by decide +kernel))) (fun _ h9 => h9) rfl dX12_end_81 ?_
      refine lv_icmp_ge (tgt := 121) hx hb dX12_end_84 (by decide) (fun h1 => ?_) (fun h1 => ?_)
      · replace hF := hF.1 h1
        refine lv_iload_n hx hb dX12_end_121 rfl (lv_at hl 1 rfl) ?_
        exact W.iret (v := x2) hx hb hr (fun t ht hW => ⟨⟨x2, σ, rfl, hF, (by unfold sm_B; rw [ht]; exact hP)⟩, hS.F ht⟩) hS.2.2 dX12_end_122
      · replace hF := hF.2 h1
        refine lv_aload_n hx hb dX12_end_87 rfl (lv_at hl 0 rfl) ?_
        refine lv_iload_n hx hb dX12_end_88 rfl (lv_at hl 2 rfl) ?_
        refine sm_vi (As := [.int x3]) (rest := []) hP hK hD hE hS hA ⟨hx, hb, hml, hown, hts⟩ hl.1 (c_X12_verify l D H.size t0 σ α x3 _ hF) (cwV 1 hts wg_X12_end_X12_verify_161 rfl rfl rfl (by decide +kernel) ⟨Nat.le_of_ble_eq_true rfl, Nat.le_of_ble_eq_true rfl⟩) (va_recv hK hP (ci := 12) (q0 := 1) rfl (sm_gX12 σ α)) rfl rfl (Nat.le_of_ble_eq_true rfl) dX12_end_89 ⟨Nat.zero_le _, Nat.zero_le _⟩ (fun r3 σ2 H locs hF hP hS => ?_)
        refine lv_istore (lv' := [(4, .int r3), (0, .ref (α.1 1)), (2, .int x2), (3, .int x3)]) hx hb dX12_end_92 hl (by decide) rfl (fun ls hl => ?_)
        refine lv_iload hx hb dX12_end_94 (lv_at hl 0 rfl) ?_
        refine lv_iconst (v := -1) hx hb dX12_end_96 (by decide) ?_
        refine lv_icmp_eq (tgt := 115) hx hb dX12_end_97 (by decide) (fun h4 => ?_) (fun h4 => ?_)
        · replace hF := hF.1 h4
          obtain ⟨v5, ev5⟩ : ∃ y : Int32, y = x3 + 1 := ⟨_, rfl⟩
          replace hF := hF v5 ev5
          refine lv_iinc (v := v5) (lv' := [(3, .int v5), (4, .int r3), (0, .ref (α.1 1)), (2, .int x2)]) hx hb dX12_end_115 hl (k := 3) rfl (by rw [ev5]; rfl) (by decide) rfl (fun ls hl => ?_)
          refine lv_goto (tgt := 76) hx hb dX12_end_118 (by decide) ?_
          exact ih76 σ2 x2 v5 hF H locs ls hP hS (lv_sub hl [2, 3, 0] rfl)
        · replace hF := hF.2 h4
          refine lv_aload_n hx hb dX12_end_100 rfl (lv_at hl 1 rfl) ?_
          refine va_get (D := D) (ci := 12) (v := .ref (α.1 0)) (C := RX12) (T := TX12) (N := 42) hx hb hts in_X12 hown hK hP 1 (sm_gX12 σ2 α) rfl 0 (by decide) k_0 (fun _ h9 => h9) rfl dX12_end_101 ?_
          refine lv_iconst (v := 0) hx hb dX12_end_104 (by decide) ?_
          refine va_putN (D := D) (ci := 11) (v := .int 0) (ty := .boolean) (C := RX11) (T := TX11) (N := 28) hx hb hts in_X11 tyX11 tyX11_ok nmX11 hown hK hP (hD.to (sm_wM_m _ _)) hS 0 (sm_gX11 σ2 α) rfl 7 (by decide) (va_Nw.use rfl (hE.1 (.fieldLinkNest "SteadyMachineModel" 164 "SteadyMachineModel$Image" "there" "Z" "SteadyMachineModel") (by decide +kernel))) (fun _ h9 => h9) rfl (by decide +kernel) sm_z0.1 sm_z0.2 (Nat.le_of_ble_eq_true rfl) dX12_end_105 (fun H locs hP _ hS => ?_)
          rw [sm_iM4] at hP
          obtain ⟨σ6, eσ6⟩ : ∃ x : sm_S, x = sm_i σ2 4 0 := ⟨_, rfl⟩
          replace hF := hF σ6 eσ6
          rw [← eσ6] at hP
          refine lv_sipush (v := -10003) hx hb dX12_end_108 (by decide) ?_
          refine lv_iload hx hb dX12_end_111 (lv_at hl 0 rfl) ?_
          refine lv_isub hx hb dX12_end_113 ?_
          exact W.iret (v := ((-10003) - r3)) hx hb hr (fun t ht hW => ⟨⟨((-10003) - r3), σ6, rfl, hF, (by unfold sm_B; rw [ht]; exact hP)⟩, hS.F ht⟩) hS.2.2 dX12_end_114
  have B47 : ∀ (n : Nat) (σ : sm_S) (x2 : Int32) (x3 : Int32), mp_X12_end_47 K n σ x2 x3 → sm_J p l e (headSpec wp_X12_end { frames := 8, cells := 0, slots := 0, locals := 188 }).room s m ([.ref (α.1 1), .int p1] : List Value).toArray below meth c (MQ below (va_Qi K (sm_B sm_wM D α) A) ([.ref (α.1 1), .int p1] : List Value).toArray s 0 0 A) D A 5 (sm_wM σ α) 47 [(0, .ref (α.1 1)), (2, .int x2), (3, .int x3)] [] := by
    intro n47
    induction n47 with
    | zero =>
      intro σ x2 x3 hF
      exact hF.elim
    | succ n47 ih47 =>
      intro σ x2 x3 hF H locs ls hP hS hl
      unfold mp_X12_end_47 at hF
      refine lv_iload_n hx hb dX12_end_47 rfl (lv_at hl 2 rfl) ?_
      refine lv_sipush (v := 8000) hx hb dX12_end_48 (by decide) ?_
      refine lv_icmp_ge (tgt := 74) hx hb dX12_end_51 (by decide) (fun h7 => ?_) (fun h7 => ?_)
      · replace hF := hF.1 h7
        refine lv_iconst (v := 0) hx hb dX12_end_74 (by decide) ?_
        refine lv_istore_n (lv' := [(3, .int 0), (0, .ref (α.1 1)), (2, .int x2)]) hx hb dX12_end_75 rfl hl (by decide) rfl (fun ls hl => ?_)
        obtain ⟨n76, hF⟩ := hF
        exact B76 n76 σ x2 0 hF H locs ls hP hS (lv_sub hl [1, 2, 0] rfl)
      · replace hF := hF.2 h7
        refine lv_aload_n hx hb dX12_end_54 rfl (lv_at hl 0 rfl) ?_
        refine va_get (D := D) (ci := 12) (v := .ref (α.1 21)) (C := RX12) (T := TX12) (N := 42) hx hb hts in_X12 hown hK hP 1 (sm_gX12 σ α) rfl 1 (by decide) k_1 (fun _ h9 => h9) rfl dX12_end_55 ?_
        refine lv_iload_n hx hb dX12_end_58 rfl (lv_at hl 2 rfl) ?_
        refine lv_iconst (v := -1) hx hb dX12_end_59 (by decide) ?_
        obtain ⟨h8, hF⟩ := hF
        refine va_iast (n := (σ.2.2.1 21)) (f := (σ.2.2.2.1 21)) (x := (-1)) hx hb hK hP (hD.to (sm_wM_m _ _)) hS 21 19 (sm_aM21 σ α) (sm_yM21 α) h8 dX12_end_60 (fun H locs hP _ hS => ?_)
        rw [sm_rM21] at hP
        obtain ⟨σ9, eσ9⟩ : ∃ x : sm_S, x = sm_r σ 21 (upd (σ.2.2.2.1 21) x3.toNatClampNeg (-1)) := ⟨_, rfl⟩
        replace hF := hF σ9 eσ9
        rw [← eσ9] at hP
        refine lv_aload_n hx hb dX12_end_61 rfl (lv_at hl 0 rfl) ?_
        refine va_get (D := D) (ci := 12) (v := .ref (α.1 23)) (C := RX12) (T := TX12) (N := 42) hx hb hts in_X12 hown hK hP 1 (sm_gX12 σ9 α) rfl 3 (by decide) k_2 (fun _ h9 => h9) rfl dX12_end_62 ?_
        refine lv_iload_n hx hb dX12_end_65 rfl (lv_at hl 2 rfl) ?_
        refine lv_iconst (v := 0) hx hb dX12_end_66 (by decide) ?_
        obtain ⟨h10, hF⟩ := hF
        refine va_zast (n := (σ9.2.2.1 23)) (f := (σ9.2.2.2.1 23)) (x := 0) hx hb hK hP (hD.to (sm_wM_m _ _)) hS 23 21 (sm_aM23 σ9 α) (sm_yM23 α) h10 dX12_end_67 (fun H locs hP _ hS => ?_)
        rw [sm_rM23] at hP
        obtain ⟨σ11, eσ11⟩ : ∃ x : sm_S, x = sm_r σ9 23 (upd (σ9.2.2.2.1 23) x3.toNatClampNeg (vp_nar .boolean 0)) := ⟨_, rfl⟩
        replace hF := hF σ11 eσ11
        rw [← eσ11] at hP
        obtain ⟨v12, ev12⟩ : ∃ y : Int32, y = x3 + 1 := ⟨_, rfl⟩
        replace hF := hF v12 ev12
        refine lv_iinc (v := v12) (lv' := [(3, .int v12), (0, .ref (α.1 1)), (2, .int x2)]) hx hb dX12_end_68 hl (k := 2) rfl (by rw [ev12]; rfl) (by decide) rfl (fun ls hl => ?_)
        refine lv_goto (tgt := 47) hx hb dX12_end_71 (by decide) ?_
        exact ih47 σ11 x2 v12 hF H locs ls hP hS (lv_sub hl [1, 2, 0] rfl)
  have B15 : ∀ (σ : sm_S), mp_X12_end_15 K σ → sm_J p l e (headSpec wp_X12_end { frames := 8, cells := 0, slots := 0, locals := 188 }).room s m ([.ref (α.1 1), .int p1] : List Value).toArray below meth c (MQ below (va_Qi K (sm_B sm_wM D α) A) ([.ref (α.1 1), .int p1] : List Value).toArray s 0 0 A) D A 5 (sm_wM σ α) 15 [(0, .ref (α.1 1))] [] := by
    intro σ hF H locs ls hP hS hl
    unfold mp_X12_end_15 at hF
    refine lv_aload_n hx hb dX12_end_15 rfl (lv_at hl 0 rfl) ?_
    refine va_get (D := D) (ci := 12) (v := .ref (α.1 0)) (C := RX12) (T := TX12) (N := 42) hx hb hts in_X12 hown hK hP 1 (sm_gX12 σ α) rfl 0 (by decide) k_0 (fun _ h9 => h9) rfl dX12_end_16 ?_
    refine lv_iconst (v := 0) hx hb dX12_end_19 (by decide) ?_
    refine va_putN (D := D) (ci := 11) (v := .int 0) (ty := .int) (C := RX11) (T := TX11) (N := 28) hx hb hts in_X11 tyX11 tyX11_ok nmX11 hown hK hP (hD.to (sm_wM_m _ _)) hS 0 (sm_gX11 σ α) rfl 1 (by decide) (va_Nw.use rfl (hE.1 (.fieldLinkNest "SteadyMachineModel" 149 "SteadyMachineModel$Image" "taped" "I" "SteadyMachineModel") (by decide +kernel))) (fun _ h9 => h9) rfl (by decide +kernel) rfl rfl (Nat.le_of_ble_eq_true rfl) dX12_end_20 (fun H locs hP _ hS => ?_)
    rw [sm_iM0] at hP
    obtain ⟨σ13, eσ13⟩ : ∃ x : sm_S, x = sm_i σ 0 0 := ⟨_, rfl⟩
    replace hF := hF σ13 eσ13
    rw [← eσ13] at hP
    refine lv_iconst (v := -1) hx hb dX12_end_23 (by decide) ?_
    exact W.iret (v := (-1)) hx hb hr (fun t ht hW => ⟨⟨(-1), σ13, rfl, hF, (by unfold sm_B; rw [ht]; exact hP)⟩, hS.F ht⟩) hS.2.2 dX12_end_24
  unfold mp_X12_end at hF
  revert hP hS
  generalize hLo : ([] : List Loc) = locs
  suffices h9 : ∀ (H : Heap) (locs : List Loc), va_P D vwCl (sm_wM σ α) H → va_S A s.heap H locs → W p l e (headSpec wp_X12_end { frames := 8, cells := 0, slots := 0, locals := 188 }).room s m ([.ref (α.1 1), .int p1] : List Value).toArray below meth c H locs 0 0 (MQ below (va_Qi K (sm_B sm_wM D α) A) ([.ref (α.1 1), .int p1] : List Value).toArray s 0 0 A) (F0 m 0 ls []) from fun hP hS => h9 s.heap locs hP hS
  intro H locs hP hS
  refine lv_iload_n hx hb dX12_end_0 rfl (lv_at hl 1 rfl) ?_
  refine lv_if_lt (tgt := 15) hx hb dX12_end_1 (by decide) (fun h14 => ?_) (fun h14 => ?_)
  · replace hF := hF.1 h14
    exact B15 σ hF H locs ls hP hS (lv_sub hl [0] rfl)
  · replace hF := hF.2 h14
    refine lv_iload_n hx hb dX12_end_4 rfl (lv_at hl 1 rfl) ?_
    refine lv_aload_n hx hb dX12_end_5 rfl (lv_at hl 0 rfl) ?_
    refine va_get (D := D) (ci := 12) (v := .ref (α.1 0)) (C := RX12) (T := TX12) (N := 42) hx hb hts in_X12 hown hK hP 1 (sm_gX12 σ α) rfl 0 (by decide) k_0 (fun _ h9 => h9) rfl dX12_end_6 ?_
    refine va_getN (D := D) (ci := 11) (v := .int (σ.1 0)) (C := RX11) (T := TX11) (N := 28) hx hb hts in_X11 hown hK hP 0 (sm_gX11 σ α) rfl 1 (by decide) (va_Nw.use rfl (hE.1 (.fieldLinkNest "SteadyMachineModel" 149 "SteadyMachineModel$Image" "taped" "I" "SteadyMachineModel") (by decide +kernel))) (fun _ h9 => h9) rfl dX12_end_9 ?_
    refine lv_icmp_le (tgt := 25) hx hb dX12_end_12 (by decide) (fun h15 => ?_) (fun h15 => ?_)
    · replace hF := hF.1 h15
      refine lv_aload_n hx hb dX12_end_25 rfl (lv_at hl 0 rfl) ?_
      refine lv_iconst (v := 0) hx hb dX12_end_26 (by decide) ?_
      refine va_put (D := D) (ci := 12) (v := .int 0) (ty := .int) (C := RX12) (T := TX12) (N := 42) hx hb hts in_X12 tyX12 tyX12_ok nmX12 hown hK hP (hD.to (sm_wM_m _ _)) hS 1 (sm_gX12 σ α) rfl 26 (by decide) k_3 (fun _ h9 => h9) rfl (by decide +kernel) rfl rfl (Nat.le_of_ble_eq_true rfl) dX12_end_27 (fun H locs hP _ hS => ?_)
      rw [sm_iM17] at hP
      obtain ⟨σ16, eσ16⟩ : ∃ x : sm_S, x = sm_i σ 17 0 := ⟨_, rfl⟩
      replace hF := hF σ16 eσ16
      rw [← eσ16] at hP
      refine lv_aload_n hx hb dX12_end_30 rfl (lv_at hl 0 rfl) ?_
      refine va_get (D := D) (ci := 12) (v := .ref (α.1 0)) (C := RX12) (T := TX12) (N := 42) hx hb hts in_X12 hown hK hP 1 (sm_gX12 σ16 α) rfl 0 (by decide) k_0 (fun _ h9 => h9) rfl dX12_end_31 ?_
      refine lv_iload_n hx hb dX12_end_34 rfl (lv_at hl 1 rfl) ?_
      refine sm_vi (As := [.int p1]) (rest := []) hP hK hD hE hS hA ⟨hx, hb, hml, hown, hts⟩ hl.1 (c_X11_end l D H.size t0 σ16 α p1 _ hF) (cwV 1 hts wg_X12_end_X11_end_155 rfl rfl rfl (by decide +kernel) ⟨Nat.le_of_ble_eq_true rfl, Nat.le_of_ble_eq_true rfl⟩) (va_recv hK hP (ci := 11) (q0 := 0) rfl (sm_gX11 σ16 α)) rfl rfl (Nat.le_of_ble_eq_true rfl) dX12_end_35 ⟨Nat.zero_le _, Nat.zero_le _⟩ (fun r18 σ17 H locs hF hP hS => ?_)
      refine lv_istore_n (lv' := [(2, .int r18), (0, .ref (α.1 1)), (1, .int p1)]) hx hb dX12_end_38 rfl hl (by decide) rfl (fun ls hl => ?_)
      refine lv_iload_n hx hb dX12_end_39 rfl (lv_at hl 0 rfl) ?_
      refine lv_if_ge (tgt := 45) hx hb dX12_end_40 (by decide) (fun h19 => ?_) (fun h19 => ?_)
      · replace hF := hF.1 h19
        refine lv_iconst (v := 0) hx hb dX12_end_45 (by decide) ?_
        refine lv_istore_n (lv' := [(3, .int 0), (2, .int r18), (0, .ref (α.1 1)), (1, .int p1)]) hx hb dX12_end_46 rfl hl (by decide) rfl (fun ls hl => ?_)
        obtain ⟨n47, hF⟩ := hF
        exact B47 n47 σ17 r18 0 hF H locs ls hP hS (lv_sub hl [2, 1, 0] rfl)
      · replace hF := hF.2 h19
        refine lv_iload_n hx hb dX12_end_43 rfl (lv_at hl 0 rfl) ?_
        exact W.iret (v := r18) hx hb hr (fun t ht hW => ⟨⟨r18, σ17, rfl, hF, (by unfold sm_B; rw [ht]; exact hP)⟩, hS.F ht⟩) hS.2.2 dX12_end_44
    · replace hF := hF.2 h15
      exact B15 σ hF H locs ls hP hS (lv_sub hl [0] rfl)
theorem dX12_stands_0 : decode cX12_stands 0 = .ok (.aload_n 0, 1) := by decide +kernel
theorem dX12_stands_1 : decode cX12_stands 1 = .ok (.getfield 10, 3) := by decide +kernel
theorem dX12_stands_4 : decode cX12_stands 4 = .ok (.getfield 164, 3) := by decide +kernel
theorem dX12_stands_7 : decode cX12_stands 7 = .ok (.ifCond .eq 34, 3) := by decide +kernel
theorem dX12_stands_10 : decode cX12_stands 10 = .ok (.iload_n 1, 1) := by decide +kernel
theorem dX12_stands_11 : decode cX12_stands 11 = .ok (.ifCond .lt 30, 3) := by decide +kernel
theorem dX12_stands_14 : decode cX12_stands 14 = .ok (.iload_n 1, 1) := by decide +kernel
theorem dX12_stands_15 : decode cX12_stands 15 = .ok (.aload_n 0, 1) := by decide +kernel
theorem dX12_stands_16 : decode cX12_stands 16 = .ok (.getfield 10, 3) := by decide +kernel
theorem dX12_stands_19 : decode cX12_stands 19 = .ok (.getfield 158, 3) := by decide +kernel
theorem dX12_stands_22 : decode cX12_stands 22 = .ok (.if_icmp .ge 19, 3) := by decide +kernel
theorem dX12_stands_25 : decode cX12_stands 25 = .ok (.iload_n 2, 1) := by decide +kernel
theorem dX12_stands_26 : decode cX12_stands 26 = .ok (.ifCond .lt 15, 3) := by decide +kernel
theorem dX12_stands_29 : decode cX12_stands 29 = .ok (.aload_n 0, 1) := by decide +kernel
theorem dX12_stands_30 : decode cX12_stands 30 = .ok (.getfield 10, 3) := by decide +kernel
theorem dX12_stands_33 : decode cX12_stands 33 = .ok (.iload_n 1, 1) := by decide +kernel
theorem dX12_stands_34 : decode cX12_stands 34 = .ok (.iload_n 2, 1) := by decide +kernel
theorem dX12_stands_35 : decode cX12_stands 35 = .ok (.invokevirtual 168, 3) := by decide +kernel
theorem dX12_stands_38 : decode cX12_stands 38 = .ok (.ifCond .ne 5, 3) := by decide +kernel
theorem dX12_stands_41 : decode cX12_stands 41 = .ok (.iconst (-1), 1) := by decide +kernel
theorem dX12_stands_42 : decode cX12_stands 42 = .ok (.ireturn, 1) := by decide +kernel
theorem dX12_stands_43 : decode cX12_stands 43 = .ok (.aload_n 0, 1) := by decide +kernel
theorem dX12_stands_44 : decode cX12_stands 44 = .ok (.getfield 10, 3) := by decide +kernel
theorem dX12_stands_47 : decode cX12_stands 47 = .ok (.getfield 30, 3) := by decide +kernel
theorem dX12_stands_50 : decode cX12_stands 50 = .ok (.iload_n 1, 1) := by decide +kernel
theorem dX12_stands_51 : decode cX12_stands 51 = .ok (.iaload, 1) := by decide +kernel
theorem dX12_stands_52 : decode cX12_stands 52 = .ok (.iload_n 2, 1) := by decide +kernel
theorem dX12_stands_53 : decode cX12_stands 53 = .ok (.iadd, 1) := by decide +kernel
theorem dX12_stands_54 : decode cX12_stands 54 = .ok (.istore 5, 2) := by decide +kernel
theorem dX12_stands_56 : decode cX12_stands 56 = .ok (.aload_n 0, 1) := by decide +kernel
theorem dX12_stands_57 : decode cX12_stands 57 = .ok (.getfield 33, 3) := by decide +kernel
theorem dX12_stands_60 : decode cX12_stands 60 = .ok (.iload 5, 2) := by decide +kernel
theorem dX12_stands_62 : decode cX12_stands 62 = .ok (.iaload, 1) := by decide +kernel
theorem dX12_stands_63 : decode cX12_stands 63 = .ok (.ifCond .ge 5, 3) := by decide +kernel
theorem dX12_stands_66 : decode cX12_stands 66 = .ok (.iconst (-1), 1) := by decide +kernel
theorem dX12_stands_67 : decode cX12_stands 67 = .ok (.ireturn, 1) := by decide +kernel
theorem dX12_stands_68 : decode cX12_stands 68 = .ok (.iload_n 3, 1) := by decide +kernel
theorem dX12_stands_69 : decode cX12_stands 69 = .ok (.ifCond .ne 11, 3) := by decide +kernel
theorem dX12_stands_72 : decode cX12_stands 72 = .ok (.aload_n 0, 1) := by decide +kernel
theorem dX12_stands_73 : decode cX12_stands 73 = .ok (.getfield 33, 3) := by decide +kernel
theorem dX12_stands_76 : decode cX12_stands 76 = .ok (.iload 5, 2) := by decide +kernel
theorem dX12_stands_78 : decode cX12_stands 78 = .ok (.iaload, 1) := by decide +kernel
theorem dX12_stands_79 : decode cX12_stands 79 = .ok (.ireturn, 1) := by decide +kernel
theorem dX12_stands_80 : decode cX12_stands 80 = .ok (.aload_n 0, 1) := by decide +kernel
theorem dX12_stands_81 : decode cX12_stands 81 = .ok (.getfield 10, 3) := by decide +kernel
theorem dX12_stands_84 : decode cX12_stands 84 = .ok (.getfield 27, 3) := by decide +kernel
theorem dX12_stands_87 : decode cX12_stands 87 = .ok (.iload_n 1, 1) := by decide +kernel
theorem dX12_stands_88 : decode cX12_stands 88 = .ok (.iaload, 1) := by decide +kernel
theorem dX12_stands_89 : decode cX12_stands 89 = .ok (.istore 6, 2) := by decide +kernel
theorem dX12_stands_91 : decode cX12_stands 91 = .ok (.iload_n 3, 1) := by decide +kernel
theorem dX12_stands_92 : decode cX12_stands 92 = .ok (.iconst 1, 1) := by decide +kernel
theorem dX12_stands_93 : decode cX12_stands 93 = .ok (.if_icmp .ne 31, 3) := by decide +kernel
theorem dX12_stands_96 : decode cX12_stands 96 = .ok (.iload 4, 2) := by decide +kernel
theorem dX12_stands_98 : decode cX12_stands 98 = .ok (.ifCond .lt 26, 3) := by decide +kernel
theorem dX12_stands_101 : decode cX12_stands 101 = .ok (.iload 4, 2) := by decide +kernel
theorem dX12_stands_103 : decode cX12_stands 103 = .ok (.iload 6, 2) := by decide +kernel
theorem dX12_stands_105 : decode cX12_stands 105 = .ok (.if_icmp .ge 19, 3) := by decide +kernel
theorem dX12_stands_108 : decode cX12_stands 108 = .ok (.aload_n 0, 1) := by decide +kernel
theorem dX12_stands_109 : decode cX12_stands 109 = .ok (.getfield 40, 3) := by decide +kernel
theorem dX12_stands_112 : decode cX12_stands 112 = .ok (.bipush 12, 2) := by decide +kernel
theorem dX12_stands_114 : decode cX12_stands 114 = .ok (.iload 5, 2) := by decide +kernel
theorem dX12_stands_116 : decode cX12_stands 116 = .ok (.imul, 1) := by decide +kernel
theorem dX12_stands_117 : decode cX12_stands 117 = .ok (.iload 4, 2) := by decide +kernel
theorem dX12_stands_119 : decode cX12_stands 119 = .ok (.iadd, 1) := by decide +kernel
theorem dX12_stands_120 : decode cX12_stands 120 = .ok (.baload, 1) := by decide +kernel
theorem dX12_stands_121 : decode cX12_stands 121 = .ok (.goto 45, 3) := by decide +kernel
theorem dX12_stands_124 : decode cX12_stands 124 = .ok (.iload_n 3, 1) := by decide +kernel
theorem dX12_stands_125 : decode cX12_stands 125 = .ok (.iconst 2, 1) := by decide +kernel
theorem dX12_stands_126 : decode cX12_stands 126 = .ok (.if_icmp .ne 39, 3) := by decide +kernel
theorem dX12_stands_129 : decode cX12_stands 129 = .ok (.iload 4, 2) := by decide +kernel
theorem dX12_stands_131 : decode cX12_stands 131 = .ok (.ifCond .lt 34, 3) := by decide +kernel
theorem dX12_stands_134 : decode cX12_stands 134 = .ok (.iload 4, 2) := by decide +kernel
theorem dX12_stands_136 : decode cX12_stands 136 = .ok (.aload_n 0, 1) := by decide +kernel
theorem dX12_stands_137 : decode cX12_stands 137 = .ok (.getfield 33, 3) := by decide +kernel
theorem dX12_stands_140 : decode cX12_stands 140 = .ok (.iload 5, 2) := by decide +kernel
theorem dX12_stands_142 : decode cX12_stands 142 = .ok (.iaload, 1) := by decide +kernel
theorem dX12_stands_143 : decode cX12_stands 143 = .ok (.if_icmp .ge 22, 3) := by decide +kernel
theorem dX12_stands_146 : decode cX12_stands 146 = .ok (.aload_n 0, 1) := by decide +kernel
theorem dX12_stands_147 : decode cX12_stands 147 = .ok (.getfield 40, 3) := by decide +kernel
theorem dX12_stands_150 : decode cX12_stands 150 = .ok (.bipush 12, 2) := by decide +kernel
theorem dX12_stands_152 : decode cX12_stands 152 = .ok (.iload 5, 2) := by decide +kernel
theorem dX12_stands_154 : decode cX12_stands 154 = .ok (.imul, 1) := by decide +kernel
theorem dX12_stands_155 : decode cX12_stands 155 = .ok (.iload 6, 2) := by decide +kernel
theorem dX12_stands_157 : decode cX12_stands 157 = .ok (.iadd, 1) := by decide +kernel
theorem dX12_stands_158 : decode cX12_stands 158 = .ok (.iload 4, 2) := by decide +kernel
theorem dX12_stands_160 : decode cX12_stands 160 = .ok (.iadd, 1) := by decide +kernel
theorem dX12_stands_161 : decode cX12_stands 161 = .ok (.baload, 1) := by decide +kernel
theorem dX12_stands_162 : decode cX12_stands 162 = .ok (.goto 4, 3) := by decide +kernel
theorem dX12_stands_165 : decode cX12_stands 165 = .ok (.iconst (-1), 1) := by decide +kernel
theorem dX12_stands_166 : decode cX12_stands 166 = .ok (.ireturn, 1) := by decide +kernel
def wp_X12_stands : List Cond := .code yX12_stands cX12_stands 7 (some .int) :: ((([.fieldLink RX12 33 "SteadyMachineModel" "high" "[I", .fieldLink RX12 40 "SteadyMachineModel" "types" "[B", .fieldLink RX12 10 "SteadyMachineModel" "image" "LSteadyMachineModel$Image;", .initialized RX11, .instanceMethod yX11_isBegin, .selects RX11 yX11_isBegin yX11_isBegin] ++ wp_X11_isBegin) ++ wsX110) ++ wsX120)
theorem wq_X12_stands : wp_X12_stands.all goodWord = true := wa_c rfl (wa_a (wa_a (wa_a (by decide +kernel) wq_X11_isBegin) uq_X11) uq_X12)
theorem wt_X12_stands : GoodIn lw_tbl wp_X12_stands := wm_c (List.mem_of_getElem? (i := 1369) (by decide +kernel)) rfl (wm_a (wm_a (wm_a (goodIn_r _ [1491, 1492, 1490, 148, 1273, 83] (by decide +kernel) (by decide +kernel)) wt_X11_isBegin) ut_X11) ut_X12)
theorem wg_X12_stands_X11_isBegin_168 : GoodIn wp_X12_stands wp_X11_isBegin := goodIn_sub (fun w h => List.mem_cons_of_mem _ (List.mem_append_left _ (List.mem_append_left _ (List.mem_append_right _ h)))) wq_X11_isBegin
theorem wi_X12_stands_X11 : ∀ w ∈ wsX110, w ∈ wp_X12_stands := fun w h => List.mem_cons_of_mem _ (List.mem_append_left _ (List.mem_append_right _ h))
theorem wi_X12_stands_X12 : ∀ w ∈ wsX120, w ∈ wp_X12_stands := fun w h => List.mem_cons_of_mem _ (List.mem_append_right _ h)
set_option maxHeartbeats 4000000 in
set_option maxRecDepth 100000 in
theorem c_X12_stands (l : Launch) (D : va_G) (sz t0 : Nat) (σ : sm_S) (α : sm_A) (p1 : Int32) (p2 : Int32) (p3 : Int32) (p4 : Int32) (K : Int32 → sm_S → Prop) (hF : mp_X12_stands σ p1 p2 p3 p4 K) : Met l yX12_stands wp_X12_stands { frames := 1, cells := 0, slots := 0, locals := 22 } (sm_P sm_wM sm_tM 40 D sz t0 σ α [.ref (α.1 1), .int p1, .int p2, .int p3, .int p4]) (va_Qi K (sm_B sm_wM D α) (sm_a α 40 sz)) 0 0 (sm_a α 40 sz) := by
  refine Met.ofW (cc := cX12_stands) (maxL := 7) (ret := (some .int)) (by decide) rfl ?_
  intro p e s m args below meth c s₁ B hml hv
  obtain ⟨rfl, hsz, hP, hK, hD0, hE⟩ := hv
  have hx := B.exec
  have hb := B.bytes
  have hr := B.returns
  have hts := atoms_spec (ws := wp_X12_stands) B.pre
  have hown : s.vm.findClass RX12 = some m.cls := findClass_of_methodNamed B.named
  have hlocks := B.notSynchronized
  subst hsz
  have hD : sm_D (sm_a α 40 s.heap.size) α 40 := hD0.own
  have hA : ∀ q : Nat, s.heap.size ≤ q → sm_a α 40 s.heap.size q := fun q h => Or.inr h
  generalize hAe : sm_a α 40 s.heap.size = A at hD hA hE ⊢
  have hS : va_S A s.heap s.heap [] := va_S.rf
  have in_X11 : ∀ w ∈ wsX110, w ∈ wp_X12_stands := wi_X12_stands_X11
  have in_X12 : ∀ w ∈ wsX120, w ∈ wp_X12_stands := wi_X12_stands_X12
  have k_0 := hts (.fieldLink RX12 33 "SteadyMachineModel" "high" "[I") (by decide +kernel)
  have k_1 := hts (.fieldLink RX12 40 "SteadyMachineModel" "types" "[B") (by decide +kernel)
  have k_2 := hts (.fieldLink RX12 10 "SteadyMachineModel" "image" "LSteadyMachineModel$Image;") (by decide +kernel)
  have k_3 := hts (.initialized RX11) (by decide +kernel)
  have k_4 := hts (.instanceMethod yX11_isBegin) (by decide +kernel)
  have k_5 := hts (.selects RX11 yX11_isBegin yX11_isBegin) (by decide +kernel)
  have hl := lv_entry ([.ref (α.1 1), .int p1, .int p2, .int p3, .int p4]) (n := 7) (Nat.le_of_ble_eq_true rfl)
  rw [lg_entry_eq]
  generalize (lg_sl ([.ref (α.1 1), .int p1, .int p2, .int p3, .int p4]) ++ List.replicate (7 - (lg_sl ([.ref (α.1 1), .int p1, .int p2, .int p3, .int p4])).length) Slot.unset).toArray = ls at hl ⊢
  have hl : lv_has ls 7 [(0, .ref (α.1 1)), (1, .int p1), (2, .int p2), (3, .int p3), (4, .int p4)] := hl
  have B166 : ∀ (σ : sm_S) (y0 : Int32), mp_X12_stands_166 K σ y0 → sm_J p l e (headSpec wp_X12_stands { frames := 1, cells := 0, slots := 0, locals := 22 }).room s m ([.ref (α.1 1), .int p1, .int p2, .int p3, .int p4] : List Value).toArray below meth c (MQ below (va_Qi K (sm_B sm_wM D α) A) ([.ref (α.1 1), .int p1, .int p2, .int p3, .int p4] : List Value).toArray s 0 0 A) D A 7 (sm_wM σ α) 166 [] [.int y0] := by
    intro σ y0 hF H locs ls hP hS hl
    unfold mp_X12_stands_166 at hF
    exact W.iret (v := y0) hx hb hr (fun t ht hW => ⟨⟨y0, σ, rfl, hF, (by unfold sm_B; rw [ht]; exact hP)⟩, hS.F ht⟩) hS.2.2 dX12_stands_166
  have B165 : ∀ (σ : sm_S), mp_X12_stands_165 K σ → sm_J p l e (headSpec wp_X12_stands { frames := 1, cells := 0, slots := 0, locals := 22 }).room s m ([.ref (α.1 1), .int p1, .int p2, .int p3, .int p4] : List Value).toArray below meth c (MQ below (va_Qi K (sm_B sm_wM D α) A) ([.ref (α.1 1), .int p1, .int p2, .int p3, .int p4] : List Value).toArray s 0 0 A) D A 7 (sm_wM σ α) 165 [] [] := by
    intro σ hF H locs ls hP hS hl
    unfold mp_X12_stands_165 at hF
    refine lv_iconst (v := -1) hx hb dX12_stands_165 (by decide) ?_
    exact B166 σ (-1) hF H locs ls hP hS (lv_sub hl [] rfl)
  have B124 : ∀ (σ : sm_S) (x3 : Int32) (x4 : Int32) (x5 : Int32) (x6 : Int32), mp_X12_stands_124 K σ x3 x4 x5 x6 → sm_J p l e (headSpec wp_X12_stands { frames := 1, cells := 0, slots := 0, locals := 22 }).room s m ([.ref (α.1 1), .int p1, .int p2, .int p3, .int p4] : List Value).toArray below meth c (MQ below (va_Qi K (sm_B sm_wM D α) A) ([.ref (α.1 1), .int p1, .int p2, .int p3, .int p4] : List Value).toArray s 0 0 A) D A 7 (sm_wM σ α) 124 [(0, .ref (α.1 1)), (3, .int x3), (4, .int x4), (5, .int x5), (6, .int x6)] [] := by
    intro σ x3 x4 x5 x6 hF H locs ls hP hS hl
    unfold mp_X12_stands_124 at hF
    refine lv_iload_n hx hb dX12_stands_124 rfl (lv_at hl 1 rfl) ?_
    refine lv_iconst (v := 2) hx hb dX12_stands_125 (by decide) ?_
    refine lv_icmp_ne (tgt := 165) hx hb dX12_stands_126 (by decide) (fun h1 => ?_) (fun h1 => ?_)
    · replace hF := hF.1 h1
      exact B165 σ hF H locs ls hP hS (lv_sub hl [] rfl)
    · replace hF := hF.2 h1
      refine lv_iload hx hb dX12_stands_129 (lv_at hl 2 rfl) ?_
      refine lv_if_lt (tgt := 165) hx hb dX12_stands_131 (by decide) (fun h2 => ?_) (fun h2 => ?_)
      · replace hF := hF.1 h2
        exact B165 σ hF H locs ls hP hS (lv_sub hl [] rfl)
      · replace hF := hF.2 h2
        refine lv_iload hx hb dX12_stands_134 (lv_at hl 2 rfl) ?_
        refine lv_aload_n hx hb dX12_stands_136 rfl (lv_at hl 0 rfl) ?_
        refine va_get (D := D) (ci := 12) (v := .ref (α.1 21)) (C := RX12) (T := TX12) (N := 42) hx hb hts in_X12 hown hK hP 1 (sm_gX12 σ α) rfl 1 (by decide) k_0 (fun _ h9 => h9) rfl dX12_stands_137 ?_
        refine lv_iload hx hb dX12_stands_140 (lv_at hl 3 rfl) ?_
        obtain ⟨h3, hF⟩ := hF
        refine va_iald (n := (σ.2.2.1 21)) (f := (σ.2.2.2.1 21)) hx hb hK hP 21 19 (sm_aM21 σ α) (sm_yM21 α) h3 dX12_stands_142 ?_
        refine lv_icmp_ge (tgt := 165) hx hb dX12_stands_143 (by decide) (fun h4 => ?_) (fun h4 => ?_)
        · replace hF := hF.1 h4
          exact B165 σ hF H locs ls hP hS (lv_sub hl [] rfl)
        · replace hF := hF.2 h4
          refine lv_aload_n hx hb dX12_stands_146 rfl (lv_at hl 0 rfl) ?_
          refine va_get (D := D) (ci := 12) (v := .ref (α.1 22)) (C := RX12) (T := TX12) (N := 42) hx hb hts in_X12 hown hK hP 1 (sm_gX12 σ α) rfl 2 (by decide) k_1 (fun _ h9 => h9) rfl dX12_stands_147 ?_
          refine lv_bipush (v := 12) hx hb dX12_stands_150 (by decide) ?_
          refine lv_iload hx hb dX12_stands_152 (lv_at hl 3 rfl) ?_
          refine lv_imul hx hb dX12_stands_154 ?_
          refine lv_iload hx hb dX12_stands_155 (lv_at hl 4 rfl) ?_
          refine lv_iadd hx hb dX12_stands_157 ?_
          refine lv_iload hx hb dX12_stands_158 (lv_at hl 2 rfl) ?_
          refine lv_iadd hx hb dX12_stands_160 ?_
          obtain ⟨h5, hF⟩ := hF
          refine va_bald (n := (σ.2.2.1 22)) (f := (σ.2.2.2.1 22)) hx hb hK hP 22 20 (sm_aM22 σ α) (sm_yM22 α) h5 dX12_stands_161 ?_
          refine lv_goto (tgt := 166) hx hb dX12_stands_162 (by decide) ?_
          exact B166 σ ((σ.2.2.2.1 22) (((12 * x5) + x6) + x4).toNatClampNeg) hF H locs ls hP hS (lv_sub hl [] rfl)
  have B41 : ∀ (σ : sm_S), mp_X12_stands_41 K σ → sm_J p l e (headSpec wp_X12_stands { frames := 1, cells := 0, slots := 0, locals := 22 }).room s m ([.ref (α.1 1), .int p1, .int p2, .int p3, .int p4] : List Value).toArray below meth c (MQ below (va_Qi K (sm_B sm_wM D α) A) ([.ref (α.1 1), .int p1, .int p2, .int p3, .int p4] : List Value).toArray s 0 0 A) D A 7 (sm_wM σ α) 41 [] [] := by
    intro σ hF H locs ls hP hS hl
    unfold mp_X12_stands_41 at hF
    refine lv_iconst (v := -1) hx hb dX12_stands_41 (by decide) ?_
    exact W.iret (v := (-1)) hx hb hr (fun t ht hW => ⟨⟨(-1), σ, rfl, hF, (by unfold sm_B; rw [ht]; exact hP)⟩, hS.F ht⟩) hS.2.2 dX12_stands_42
  unfold mp_X12_stands at hF
  revert hP hS
  generalize hLo : ([] : List Loc) = locs
  suffices h9 : ∀ (H : Heap) (locs : List Loc), va_P D vwCl (sm_wM σ α) H → va_S A s.heap H locs → W p l e (headSpec wp_X12_stands { frames := 1, cells := 0, slots := 0, locals := 22 }).room s m ([.ref (α.1 1), .int p1, .int p2, .int p3, .int p4] : List Value).toArray below meth c H locs 0 0 (MQ below (va_Qi K (sm_B sm_wM D α) A) ([.ref (α.1 1), .int p1, .int p2, .int p3, .int p4] : List Value).toArray s 0 0 A) (F0 m 0 ls []) from fun hP hS => h9 s.heap locs hP hS
  intro H locs hP hS
  refine lv_aload_n hx hb dX12_stands_0 rfl (lv_at hl 0 rfl) ?_
  refine va_get (D := D) (ci := 12) (v := .ref (α.1 0)) (C := RX12) (T := TX12) (N := 42) hx hb hts in_X12 hown hK hP 1 (sm_gX12 σ α) rfl 0 (by decide) k_2 (fun _ h9 => h9) rfl dX12_stands_1 ?_
  refine va_getN (D := D) (ci := 11) (v := .int (σ.1 4)) (C := RX11) (T := TX11) (N := 28) hx hb hts in_X11 hown hK hP 0 (sm_gX11 σ α) rfl 7 (by decide) (va_Nw.use rfl (hE.1 (.fieldLinkNest "SteadyMachineModel" 164 "SteadyMachineModel$Image" "there" "Z" "SteadyMachineModel") (by decide +kernel))) (fun _ h9 => h9) rfl dX12_stands_4 ?_
  refine lv_if_eq (tgt := 41) hx hb dX12_stands_7 (by decide) (fun h6 => ?_) (fun h6 => ?_)
  · replace hF := hF.1 h6
    exact B41 σ hF H locs ls hP hS (lv_sub hl [] rfl)
  · replace hF := hF.2 h6
    refine lv_iload_n hx hb dX12_stands_10 rfl (lv_at hl 1 rfl) ?_
    refine lv_if_lt (tgt := 41) hx hb dX12_stands_11 (by decide) (fun h7 => ?_) (fun h7 => ?_)
    · replace hF := hF.1 h7
      exact B41 σ hF H locs ls hP hS (lv_sub hl [] rfl)
    · replace hF := hF.2 h7
      refine lv_iload_n hx hb dX12_stands_14 rfl (lv_at hl 1 rfl) ?_
      refine lv_aload_n hx hb dX12_stands_15 rfl (lv_at hl 0 rfl) ?_
      refine va_get (D := D) (ci := 12) (v := .ref (α.1 0)) (C := RX12) (T := TX12) (N := 42) hx hb hts in_X12 hown hK hP 1 (sm_gX12 σ α) rfl 0 (by decide) k_2 (fun _ h9 => h9) rfl dX12_stands_16 ?_
      refine va_getN (D := D) (ci := 11) (v := .int (σ.1 6)) (C := RX11) (T := TX11) (N := 28) hx hb hts in_X11 hown hK hP 0 (sm_gX11 σ α) rfl 15 (by decide) (va_Nw.use rfl (hE.1 (.fieldLinkNest "SteadyMachineModel" 158 "SteadyMachineModel$Image" "methods" "I" "SteadyMachineModel") (by decide +kernel))) (fun _ h9 => h9) rfl dX12_stands_19 ?_
      refine lv_icmp_ge (tgt := 41) hx hb dX12_stands_22 (by decide) (fun h8 => ?_) (fun h8 => ?_)
      · replace hF := hF.1 h8
        exact B41 σ hF H locs ls hP hS (lv_sub hl [] rfl)
      · replace hF := hF.2 h8
        refine lv_iload_n hx hb dX12_stands_25 rfl (lv_at hl 2 rfl) ?_
        refine lv_if_lt (tgt := 41) hx hb dX12_stands_26 (by decide) (fun h9 => ?_) (fun h9 => ?_)
        · replace hF := hF.1 h9
          exact B41 σ hF H locs ls hP hS (lv_sub hl [] rfl)
        · replace hF := hF.2 h9
          refine lv_aload_n hx hb dX12_stands_29 rfl (lv_at hl 0 rfl) ?_
          refine va_get (D := D) (ci := 12) (v := .ref (α.1 0)) (C := RX12) (T := TX12) (N := 42) hx hb hts in_X12 hown hK hP 1 (sm_gX12 σ α) rfl 0 (by decide) k_2 (fun _ h9 => h9) rfl dX12_stands_30 ?_
          refine lv_iload_n hx hb dX12_stands_33 rfl (lv_at hl 1 rfl) ?_
          refine lv_iload_n hx hb dX12_stands_34 rfl (lv_at hl 2 rfl) ?_
          refine sm_nvi (As := [.int p1, .int p2]) (rest := []) hP hK hD hE hS hA ⟨hx, hb, hml, hown, hts⟩ hl.1 (c_X11_isBegin l D H.size t0 σ α p1 p2 _ hF) ⟨va_cnB 2 hts wg_X12_stands_X11_isBegin_168 rfl rfl rfl (hE.1 (.methodLinkNest "SteadyMachineModel" 168 ⟨"SteadyMachineModel$Image", "isBegin", "(II)Z"⟩ "SteadyMachineModel") (by decide +kernel)) k_3 (by decide +kernel) ⟨Nat.le_of_ble_eq_true rfl, Nat.le_of_ble_eq_true rfl⟩, k_4, k_5⟩ (va_recv hK hP (ci := 11) (q0 := 0) rfl (sm_gX11 σ α)) rfl rfl (Nat.le_of_ble_eq_true rfl) dX12_stands_35 ⟨Nat.zero_le _, Nat.zero_le _⟩ (fun r11 σ10 H locs hF hP hS => ?_)
          refine lv_if_ne (tgt := 43) hx hb dX12_stands_38 (by decide) (fun h12 => ?_) (fun h12 => ?_)
          · replace hF := hF.1 h12
            refine lv_aload_n hx hb dX12_stands_43 rfl (lv_at hl 0 rfl) ?_
            refine va_get (D := D) (ci := 12) (v := .ref (α.1 0)) (C := RX12) (T := TX12) (N := 42) hx hb hts in_X12 hown hK hP 1 (sm_gX12 σ10 α) rfl 0 (by decide) k_2 (fun _ h9 => h9) rfl dX12_stands_44 ?_
            refine va_getN (D := D) (ci := 11) (v := .ref (α.1 17)) (C := RX11) (T := TX11) (N := 28) hx hb hts in_X11 hown hK hP 0 (sm_gX11 σ10 α) rfl 22 (by decide) (va_Nw.use rfl (hE.1 (.fieldLinkNest "SteadyMachineModel" 30 "SteadyMachineModel$Image" "codeAt" "[I" "SteadyMachineModel") (by decide +kernel))) (fun _ h9 => h9) rfl dX12_stands_47 ?_
            refine lv_iload_n hx hb dX12_stands_50 rfl (lv_at hl 1 rfl) ?_
            obtain ⟨h13, hF⟩ := hF
            refine va_iald (n := (σ10.2.2.1 17)) (f := (σ10.2.2.2.1 17)) hx hb hK hP 17 15 (sm_aM17 σ10 α) (sm_yM17 α) h13 dX12_stands_51 ?_
            refine lv_iload_n hx hb dX12_stands_52 rfl (lv_at hl 2 rfl) ?_
            refine lv_iadd hx hb dX12_stands_53 ?_
            refine lv_topi (fun v14 ev14 => ?_)
            replace hF := hF v14 ev14
            refine lv_istore (lv' := [(5, .int v14), (0, .ref (α.1 1)), (1, .int p1), (2, .int p2), (3, .int p3), (4, .int p4)]) hx hb dX12_stands_54 hl (by decide) rfl (fun ls hl => ?_)
            refine lv_aload_n hx hb dX12_stands_56 rfl (lv_at hl 1 rfl) ?_
            refine va_get (D := D) (ci := 12) (v := .ref (α.1 21)) (C := RX12) (T := TX12) (N := 42) hx hb hts in_X12 hown hK hP 1 (sm_gX12 σ10 α) rfl 1 (by decide) k_0 (fun _ h9 => h9) rfl dX12_stands_57 ?_
            refine lv_iload hx hb dX12_stands_60 (lv_at hl 0 rfl) ?_
            obtain ⟨h15, hF⟩ := hF
            refine va_iald (n := (σ10.2.2.1 21)) (f := (σ10.2.2.2.1 21)) hx hb hK hP 21 19 (sm_aM21 σ10 α) (sm_yM21 α) h15 dX12_stands_62 ?_
            refine lv_if_ge (tgt := 68) hx hb dX12_stands_63 (by decide) (fun h16 => ?_) (fun h16 => ?_)
            · replace hF := hF.1 h16
              refine lv_iload_n hx hb dX12_stands_68 rfl (lv_at hl 4 rfl) ?_
              refine lv_if_ne (tgt := 80) hx hb dX12_stands_69 (by decide) (fun h17 => ?_) (fun h17 => ?_)
              · replace hF := hF.1 h17
                refine lv_aload_n hx hb dX12_stands_80 rfl (lv_at hl 1 rfl) ?_
                refine va_get (D := D) (ci := 12) (v := .ref (α.1 0)) (C := RX12) (T := TX12) (N := 42) hx hb hts in_X12 hown hK hP 1 (sm_gX12 σ10 α) rfl 0 (by decide) k_2 (fun _ h9 => h9) rfl dX12_stands_81 ?_
                refine va_getN (D := D) (ci := 11) (v := .ref (α.1 15)) (C := RX11) (T := TX11) (N := 28) hx hb hts in_X11 hown hK hP 0 (sm_gX11 σ10 α) rfl 20 (by decide) (va_Nw.use rfl (hE.1 (.fieldLinkNest "SteadyMachineModel" 27 "SteadyMachineModel$Image" "locals" "[I" "SteadyMachineModel") (by decide +kernel))) (fun _ h9 => h9) rfl dX12_stands_84 ?_
                refine lv_iload_n hx hb dX12_stands_87 rfl (lv_at hl 2 rfl) ?_
                obtain ⟨h18, hF⟩ := hF
                refine va_iald (n := (σ10.2.2.1 15)) (f := (σ10.2.2.2.1 15)) hx hb hK hP 15 13 (sm_aM15 σ10 α) (sm_yM15 α) h18 dX12_stands_88 ?_
                refine lv_topi (fun v19 ev19 => ?_)
                replace hF := hF v19 ev19
                refine lv_istore (lv' := [(6, .int v19), (5, .int v14), (0, .ref (α.1 1)), (1, .int p1), (2, .int p2), (3, .int p3), (4, .int p4)]) hx hb dX12_stands_89 hl (by decide) rfl (fun ls hl => ?_)
                refine lv_iload_n hx hb dX12_stands_91 rfl (lv_at hl 5 rfl) ?_
                refine lv_iconst (v := 1) hx hb dX12_stands_92 (by decide) ?_
                refine lv_icmp_ne (tgt := 124) hx hb dX12_stands_93 (by decide) (fun h20 => ?_) (fun h20 => ?_)
                · replace hF := hF.1 h20
                  exact B124 σ10 p3 p4 v14 v19 hF H locs ls hP hS (lv_sub hl [2, 5, 6, 1, 0] rfl)
                · replace hF := hF.2 h20
                  refine lv_iload hx hb dX12_stands_96 (lv_at hl 6 rfl) ?_
                  refine lv_if_lt (tgt := 124) hx hb dX12_stands_98 (by decide) (fun h21 => ?_) (fun h21 => ?_)
                  · replace hF := hF.1 h21
                    exact B124 σ10 p3 p4 v14 v19 hF H locs ls hP hS (lv_sub hl [2, 5, 6, 1, 0] rfl)
                  · replace hF := hF.2 h21
                    refine lv_iload hx hb dX12_stands_101 (lv_at hl 6 rfl) ?_
                    refine lv_iload hx hb dX12_stands_103 (lv_at hl 0 rfl) ?_
                    refine lv_icmp_ge (tgt := 124) hx hb dX12_stands_105 (by decide) (fun h22 => ?_) (fun h22 => ?_)
                    · replace hF := hF.1 h22
                      exact B124 σ10 p3 p4 v14 v19 hF H locs ls hP hS (lv_sub hl [2, 5, 6, 1, 0] rfl)
                    · replace hF := hF.2 h22
                      refine lv_aload_n hx hb dX12_stands_108 rfl (lv_at hl 2 rfl) ?_
                      refine va_get (D := D) (ci := 12) (v := .ref (α.1 22)) (C := RX12) (T := TX12) (N := 42) hx hb hts in_X12 hown hK hP 1 (sm_gX12 σ10 α) rfl 2 (by decide) k_1 (fun _ h9 => h9) rfl dX12_stands_109 ?_
                      refine lv_bipush (v := 12) hx hb dX12_stands_112 (by decide) ?_
                      refine lv_iload hx hb dX12_stands_114 (lv_at hl 1 rfl) ?_
                      refine lv_imul hx hb dX12_stands_116 ?_
                      refine lv_iload hx hb dX12_stands_117 (lv_at hl 6 rfl) ?_
                      refine lv_iadd hx hb dX12_stands_119 ?_
                      obtain ⟨h23, hF⟩ := hF
                      refine va_bald (n := (σ10.2.2.1 22)) (f := (σ10.2.2.2.1 22)) hx hb hK hP 22 20 (sm_aM22 σ10 α) (sm_yM22 α) h23 dX12_stands_120 ?_
                      refine lv_goto (tgt := 166) hx hb dX12_stands_121 (by decide) ?_
                      exact B166 σ10 ((σ10.2.2.2.1 22) ((12 * v14) + p4).toNatClampNeg) hF H locs ls hP hS (lv_sub hl [] rfl)
              · replace hF := hF.2 h17
                refine lv_aload_n hx hb dX12_stands_72 rfl (lv_at hl 1 rfl) ?_
                refine va_get (D := D) (ci := 12) (v := .ref (α.1 21)) (C := RX12) (T := TX12) (N := 42) hx hb hts in_X12 hown hK hP 1 (sm_gX12 σ10 α) rfl 1 (by decide) k_0 (fun _ h9 => h9) rfl dX12_stands_73 ?_
                refine lv_iload hx hb dX12_stands_76 (lv_at hl 0 rfl) ?_
                obtain ⟨h24, hF⟩ := hF
                refine va_iald (n := (σ10.2.2.1 21)) (f := (σ10.2.2.2.1 21)) hx hb hK hP 21 19 (sm_aM21 σ10 α) (sm_yM21 α) h24 dX12_stands_78 ?_
                exact W.iret (v := ((σ10.2.2.2.1 21) v14.toNatClampNeg)) hx hb hr (fun t ht hW => ⟨⟨((σ10.2.2.2.1 21) v14.toNatClampNeg), σ10, rfl, hF, (by unfold sm_B; rw [ht]; exact hP)⟩, hS.F ht⟩) hS.2.2 dX12_stands_79
            · replace hF := hF.2 h16
              refine lv_iconst (v := -1) hx hb dX12_stands_66 (by decide) ?_
              exact W.iret (v := (-1)) hx hb hr (fun t ht hW => ⟨⟨(-1), σ10, rfl, hF, (by unfold sm_B; rw [ht]; exact hP)⟩, hS.F ht⟩) hS.2.2 dX12_stands_67
          · replace hF := hF.2 h12
            exact B41 σ10 hF H locs ls hP hS (lv_sub hl [] rfl)
