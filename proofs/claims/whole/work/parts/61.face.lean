theorem dX9_target_0 : decode cX9_target 0 = .ok (.lload_n 1, 1) := by decide +kernel
theorem dX9_target_1 : decode cX9_target 1 = .ok (.l2i, 1) := by decide +kernel
theorem dX9_target_2 : decode cX9_target 2 = .ok (.istore_n 3, 1) := by decide +kernel
theorem dX9_target_3 : decode cX9_target 3 = .ok (.aload_n 0, 1) := by decide +kernel
theorem dX9_target_4 : decode cX9_target 4 = .ok (.getfield 23, 3) := by decide +kernel
theorem dX9_target_7 : decode cX9_target 7 = .ok (.iload_n 3, 1) := by decide +kernel
theorem dX9_target_8 : decode cX9_target 8 = .ok (.invokevirtual 27, 3) := by decide +kernel
theorem dX9_target_11 : decode cX9_target 11 = .ok (.lstore 4, 2) := by decide +kernel
theorem dX9_target_13 : decode cX9_target 13 = .ok (.lload 4, 2) := by decide +kernel
theorem dX9_target_15 : decode cX9_target 15 = .ok (.invokestatic 33, 3) := by decide +kernel
theorem dX9_target_18 : decode cX9_target 18 = .ok (.bipush 6, 2) := by decide +kernel
theorem dX9_target_20 : decode cX9_target 20 = .ok (.if_icmp .ne 9, 3) := by decide +kernel
theorem dX9_target_23 : decode cX9_target 23 = .ok (.lload 4, 2) := by decide +kernel
theorem dX9_target_25 : decode cX9_target 25 = .ok (.l2i, 1) := by decide +kernel
theorem dX9_target_26 : decode cX9_target 26 = .ok (.goto 4, 3) := by decide +kernel
theorem dX9_target_29 : decode cX9_target 29 = .ok (.iload_n 3, 1) := by decide +kernel
theorem dX9_target_30 : decode cX9_target 30 = .ok (.ireturn, 1) := by decide +kernel
def wp_X9_target : List Cond := .code yX9_target cX9_target 6 (some .int) :: ((([.fieldLink RX9 23 "SteadyMachine$View" "heap" "LSteadyMachine$Heap;"] ++ (wsV RX9 27 RX1 yX1_peek wp_X1_peek)) ++ (va_wsS RX9 33 yX1_kind wp_X1_kind)) ++ wsX90)
theorem wq_X9_target : wp_X9_target.all goodWord = true := wa_c rfl (wa_a (wa_a (wa_a (by decide +kernel) (wa_V wq_X1_peek)) (wa_S wq_X1_kind)) uq_X9)
theorem wt_X9_target : GoodIn lw_tbl wp_X9_target := wm_c (List.mem_of_getElem? (i := 1121) (by decide +kernel)) rfl (wm_a (wm_a (wm_a (goodIn_r _ [563] (by decide +kernel) (by decide +kernel)) (wm_a (goodIn_r _ [1114, 1115, 1116, 144] (by decide +kernel) (by decide +kernel)) wt_X1_peek)) (wm_a (goodIn_r _ [1122, 1029, 144] (by decide +kernel) (by decide +kernel)) wt_X1_kind)) ut_X9)
theorem wg_X9_target_X1_peek_27 : GoodIn wp_X9_target (wsV RX9 27 RX1 yX1_peek wp_X1_peek) := goodIn_sub (fun w h => List.mem_cons_of_mem _ (List.mem_append_left _ (List.mem_append_left _ (List.mem_append_right _ h)))) (wa_V wq_X1_peek)
theorem wg_X9_target_X1_kind_33 : GoodIn wp_X9_target (va_wsS RX9 33 yX1_kind wp_X1_kind) := goodIn_sub (fun w h => List.mem_cons_of_mem _ (List.mem_append_left _ (List.mem_append_right _ h))) (wa_S wq_X1_kind)
theorem wi_X9_target_X9 : ∀ w ∈ wsX90, w ∈ wp_X9_target := fun w h => List.mem_cons_of_mem _ (List.mem_append_right _ h)
set_option maxHeartbeats 4000000 in
set_option maxRecDepth 100000 in
theorem c_X9_target (l : Launch) (D : va_G) (sz t0 : Nat) (σ : sm_S) (α : sm_A) (p1 : Int64) (K : Int32 → sm_S → Prop) (hF : mp_X9_target σ p1 K) : Met l yX9_target wp_X9_target { frames := 1, cells := 0, slots := 0, locals := 21 } (sm_P sm_wX sm_tX 37 D sz t0 σ α [.ref (α.1 9), .long p1]) (va_Qi K (sm_B sm_wX D α) (sm_a α 37 sz)) 0 0 (sm_a α 37 sz) := by
  refine Met.ofW (cc := cX9_target) (maxL := 6) (ret := (some .int)) (by decide) rfl ?_
  intro p e s m args below meth c s₁ B hml hv
  obtain ⟨rfl, hsz, hP, hK, hD0, hE⟩ := hv
  have hx := B.exec
  have hb := B.bytes
  have hr := B.returns
  have hts := atoms_spec (ws := wp_X9_target) B.pre
  have hown : s.vm.findClass RX9 = some m.cls := findClass_of_methodNamed B.named
  have hlocks := B.notSynchronized
  subst hsz
  have hD : sm_D (sm_a α 37 s.heap.size) α 37 := hD0.own
  have hA : ∀ q : Nat, s.heap.size ≤ q → sm_a α 37 s.heap.size q := fun q h => Or.inr h
  generalize hAe : sm_a α 37 s.heap.size = A at hD hA hE ⊢
  have hS : va_S A s.heap s.heap [] := va_S.rf
  have in_X9 : ∀ w ∈ wsX90, w ∈ wp_X9_target := wi_X9_target_X9
  have k_0 := hts (.fieldLink RX9 23 "SteadyMachine$View" "heap" "LSteadyMachine$Heap;") (by decide +kernel)
  have hl := lv_entry ([.ref (α.1 9), .long p1]) (n := 6) (Nat.le_of_ble_eq_true rfl)
  rw [lg_entry_eq]
  generalize (lg_sl ([.ref (α.1 9), .long p1]) ++ List.replicate (6 - (lg_sl ([.ref (α.1 9), .long p1])).length) Slot.unset).toArray = ls at hl ⊢
  have hl : lv_has ls 6 [(0, .ref (α.1 9)), (1, .long p1)] := hl
  have B30 : ∀ (σ : sm_S) (y0 : Int32), mp_X9_target_30 K σ y0 → sm_J p l e (headSpec wp_X9_target { frames := 1, cells := 0, slots := 0, locals := 21 }).room s m ([.ref (α.1 9), .long p1] : List Value).toArray below meth c (MQ below (va_Qi K (sm_B sm_wX D α) A) ([.ref (α.1 9), .long p1] : List Value).toArray s 0 0 A) D A 6 (sm_wX σ α) 30 [] [.int y0] := by
    intro σ y0 hF H locs ls hP hS hl
    unfold mp_X9_target_30 at hF
    exact W.iret (v := y0) hx hb hr (fun t ht hW => ⟨⟨y0, σ, rfl, hF, (by unfold sm_B; rw [ht]; exact hP)⟩, hS.F ht⟩) hS.2.2 dX9_target_30
  unfold mp_X9_target at hF
  revert hP hS
  generalize hLo : ([] : List Loc) = locs
  suffices h9 : ∀ (H : Heap) (locs : List Loc), va_P D vwCl (sm_wX σ α) H → va_S A s.heap H locs → W p l e (headSpec wp_X9_target { frames := 1, cells := 0, slots := 0, locals := 21 }).room s m ([.ref (α.1 9), .long p1] : List Value).toArray below meth c H locs 0 0 (MQ below (va_Qi K (sm_B sm_wX D α) A) ([.ref (α.1 9), .long p1] : List Value).toArray s 0 0 A) (F0 m 0 ls []) from fun hP hS => h9 s.heap locs hP hS
  intro H locs hP hS
  refine lv_lload_n hx hb dX9_target_0 rfl (lv_at hl 1 rfl) ?_
  refine lv_l2i hx hb dX9_target_1 rfl ?_
  refine lv_istore_n (lv' := [(3, .int p1.toInt32), (0, .ref (α.1 9)), (1, .long p1)]) hx hb dX9_target_2 rfl hl (by decide) rfl (fun ls hl => ?_)
  refine lv_aload_n hx hb dX9_target_3 rfl (lv_at hl 1 rfl) ?_
  refine va_get (D := D) (ci := 9) (v := .ref (α.1 1)) (C := RX9) (T := TX9) (N := 3) hx hb hts in_X9 hown hK hP 9 (sm_gX9 σ α) rfl 2 (by decide) k_0 (fun _ h9 => h9) rfl dX9_target_4 ?_
  refine lv_iload_n hx hb dX9_target_7 rfl (lv_at hl 0 rfl) ?_
  refine sm_vl (As := [.int p1.toInt32]) (rest := []) hP hK hD hE hS hA ⟨hx, hb, hml, hown, hts⟩ hl.1 (c_X1_peek l D H.size t0 σ α p1.toInt32 _ hF) (cwV 1 hts wg_X9_target_X1_peek_27 rfl rfl rfl (by decide +kernel) ⟨Nat.le_of_ble_eq_true rfl, Nat.le_of_ble_eq_true rfl⟩) (va_recv hK hP (ci := 1) (q0 := 1) rfl (sm_gX1 σ α)) rfl rfl (Nat.le_of_ble_eq_true rfl) dX9_target_8 ⟨Nat.zero_le _, Nat.zero_le _⟩ (fun r2 σ1 H locs hF hP hS => ?_)
  refine lv_lstore (lv' := [(4, .long r2), (3, .int p1.toInt32), (0, .ref (α.1 9)), (1, .long p1)]) hx hb dX9_target_11 hl (by decide) rfl (fun ls hl => ?_)
  refine lv_lload hx hb dX9_target_13 (lv_at hl 0 rfl) ?_
  refine sm_si (As := [.long r2]) (rest := []) hP hK hD hE hS hA ⟨hx, hb, hml, hown, hts⟩ hl.1 (c_X1_kind l D H.size t0 σ1 α r2 _ hF) (va_cwS 1 hts wg_X9_target_X1_kind_33 rfl rfl rfl (by decide +kernel) ⟨Nat.le_of_ble_eq_true rfl, Nat.le_of_ble_eq_true rfl⟩) rfl rfl (Nat.le_of_ble_eq_true rfl) dX9_target_15 ⟨Nat.zero_le _, Nat.zero_le _⟩ (fun r4 σ3 H locs hF hP hS => ?_)
  refine lv_bipush (v := 6) hx hb dX9_target_18 (by decide) ?_
  refine lv_icmp_ne (tgt := 29) hx hb dX9_target_20 (by decide) (fun h5 => ?_) (fun h5 => ?_)
  · replace hF := hF.1 h5
    refine lv_iload_n hx hb dX9_target_29 rfl (lv_at hl 1 rfl) ?_
    exact B30 σ3 p1.toInt32 hF H locs ls hP hS (lv_sub hl [] rfl)
  · replace hF := hF.2 h5
    refine lv_lload hx hb dX9_target_23 (lv_at hl 0 rfl) ?_
    refine lv_l2i hx hb dX9_target_25 rfl ?_
    refine lv_goto (tgt := 30) hx hb dX9_target_26 (by decide) ?_
    exact B30 σ3 r2.toInt32 hF H locs ls hP hS (lv_sub hl [] rfl)
theorem dX9_frameAt_0 : decode cX9_frameAt 0 = .ok (.iload_n 1, 1) := by decide +kernel
theorem dX9_frameAt_1 : decode cX9_frameAt 1 = .ok (.ifCond .ge 7, 3) := by decide +kernel
theorem dX9_frameAt_4 : decode cX9_frameAt 4 = .ok (.iconst 0, 1) := by decide +kernel
theorem dX9_frameAt_5 : decode cX9_frameAt 5 = .ok (.goto 10, 3) := by decide +kernel
theorem dX9_frameAt_8 : decode cX9_frameAt 8 = .ok (.aload_n 0, 1) := by decide +kernel
theorem dX9_frameAt_9 : decode cX9_frameAt 9 = .ok (.getfield 23, 3) := by decide +kernel
theorem dX9_frameAt_12 : decode cX9_frameAt 12 = .ok (.getfield 37, 3) := by decide +kernel
theorem dX9_frameAt_15 : decode cX9_frameAt 15 = .ok (.istore_n 2, 1) := by decide +kernel
theorem dX9_frameAt_16 : decode cX9_frameAt 16 = .ok (.iconst 0, 1) := by decide +kernel
theorem dX9_frameAt_17 : decode cX9_frameAt 17 = .ok (.istore_n 3, 1) := by decide +kernel
theorem dX9_frameAt_18 : decode cX9_frameAt 18 = .ok (.iload_n 3, 1) := by decide +kernel
theorem dX9_frameAt_19 : decode cX9_frameAt 19 = .ok (.iload_n 1, 1) := by decide +kernel
theorem dX9_frameAt_20 : decode cX9_frameAt 20 = .ok (.if_icmp .ge 28, 3) := by decide +kernel
theorem dX9_frameAt_23 : decode cX9_frameAt 23 = .ok (.iload_n 2, 1) := by decide +kernel
theorem dX9_frameAt_24 : decode cX9_frameAt 24 = .ok (.ifCond .eq 24, 3) := by decide +kernel
theorem dX9_frameAt_27 : decode cX9_frameAt 27 = .ok (.aload_n 0, 1) := by decide +kernel
theorem dX9_frameAt_28 : decode cX9_frameAt 28 = .ok (.aload_n 0, 1) := by decide +kernel
theorem dX9_frameAt_29 : decode cX9_frameAt 29 = .ok (.getfield 23, 3) := by decide +kernel
theorem dX9_frameAt_32 : decode cX9_frameAt 32 = .ok (.iload_n 2, 1) := by decide +kernel
theorem dX9_frameAt_33 : decode cX9_frameAt 33 = .ok (.iconst 3, 1) := by decide +kernel
theorem dX9_frameAt_34 : decode cX9_frameAt 34 = .ok (.iadd, 1) := by decide +kernel
theorem dX9_frameAt_35 : decode cX9_frameAt 35 = .ok (.invokevirtual 27, 3) := by decide +kernel
theorem dX9_frameAt_38 : decode cX9_frameAt 38 = .ok (.invokevirtual 41, 3) := by decide +kernel
theorem dX9_frameAt_41 : decode cX9_frameAt 41 = .ok (.istore_n 2, 1) := by decide +kernel
theorem dX9_frameAt_42 : decode cX9_frameAt 42 = .ok (.iinc 3 1, 3) := by decide +kernel
theorem dX9_frameAt_45 : decode cX9_frameAt 45 = .ok (.goto (-27), 3) := by decide +kernel
theorem dX9_frameAt_48 : decode cX9_frameAt 48 = .ok (.iload_n 2, 1) := by decide +kernel
theorem dX9_frameAt_49 : decode cX9_frameAt 49 = .ok (.ireturn, 1) := by decide +kernel
def wp_X9_frameAt : List Cond := .code yX9_frameAt cX9_frameAt 4 (some .int) :: (((([.fieldLink RX9 23 "SteadyMachine$View" "heap" "LSteadyMachine$Heap;", .fieldLink RX9 37 "SteadyMachine$Heap" "top" "I"] ++ (wsV RX9 27 RX1 yX1_peek wp_X1_peek)) ++ (wsV RX9 41 RX9 yX9_target wp_X9_target)) ++ wsX10) ++ wsX90)
theorem wq_X9_frameAt : wp_X9_frameAt.all goodWord = true := wa_c rfl (wa_a (wa_a (wa_a (wa_a (by decide +kernel) (wa_V wq_X1_peek)) (wa_V wq_X9_target)) uq_X1) uq_X9)
theorem wt_X9_frameAt : GoodIn lw_tbl wp_X9_frameAt := wm_c (List.mem_of_getElem? (i := 1113) (by decide +kernel)) rfl (wm_a (wm_a (wm_a (wm_a (goodIn_r _ [563, 462] (by decide +kernel) (by decide +kernel)) (wm_a (goodIn_r _ [1114, 1115, 1116, 144] (by decide +kernel) (by decide +kernel)) wt_X1_peek)) (wm_a (goodIn_r _ [1118, 1120, 65, 146] (by decide +kernel) (by decide +kernel)) wt_X9_target)) ut_X1) ut_X9)
theorem wg_X9_frameAt_X1_peek_27 : GoodIn wp_X9_frameAt (wsV RX9 27 RX1 yX1_peek wp_X1_peek) := goodIn_sub (fun w h => List.mem_cons_of_mem _ (List.mem_append_left _ (List.mem_append_left _ (List.mem_append_left _ (List.mem_append_right _ h))))) (wa_V wq_X1_peek)
theorem wg_X9_frameAt_X9_target_41 : GoodIn wp_X9_frameAt (wsV RX9 41 RX9 yX9_target wp_X9_target) := goodIn_sub (fun w h => List.mem_cons_of_mem _ (List.mem_append_left _ (List.mem_append_left _ (List.mem_append_right _ h)))) (wa_V wq_X9_target)
theorem wi_X9_frameAt_X1 : ∀ w ∈ wsX10, w ∈ wp_X9_frameAt := fun w h => List.mem_cons_of_mem _ (List.mem_append_left _ (List.mem_append_right _ h))
theorem wi_X9_frameAt_X9 : ∀ w ∈ wsX90, w ∈ wp_X9_frameAt := fun w h => List.mem_cons_of_mem _ (List.mem_append_right _ h)
set_option maxHeartbeats 4000000 in
set_option maxRecDepth 100000 in
theorem c_X9_frameAt (l : Launch) (D : va_G) (sz t0 : Nat) (σ : sm_S) (α : sm_A) (p1 : Int32) (K : Int32 → sm_S → Prop) (hF : mp_X9_frameAt σ p1 K) : Met l yX9_frameAt wp_X9_frameAt { frames := 2, cells := 0, slots := 0, locals := 46 } (sm_P sm_wX sm_tX 37 D sz t0 σ α [.ref (α.1 9), .int p1]) (va_Qi K (sm_B sm_wX D α) (sm_a α 37 sz)) 0 0 (sm_a α 37 sz) := by
  refine Met.ofW (cc := cX9_frameAt) (maxL := 4) (ret := (some .int)) (by decide) rfl ?_
  intro p e s m args below meth c s₁ B hml hv
  obtain ⟨rfl, hsz, hP, hK, hD0, hE⟩ := hv
  have hx := B.exec
  have hb := B.bytes
  have hr := B.returns
  have hts := atoms_spec (ws := wp_X9_frameAt) B.pre
  have hown : s.vm.findClass RX9 = some m.cls := findClass_of_methodNamed B.named
  have hlocks := B.notSynchronized
  subst hsz
  have hD : sm_D (sm_a α 37 s.heap.size) α 37 := hD0.own
  have hA : ∀ q : Nat, s.heap.size ≤ q → sm_a α 37 s.heap.size q := fun q h => Or.inr h
  generalize hAe : sm_a α 37 s.heap.size = A at hD hA hE ⊢
  have hS : va_S A s.heap s.heap [] := va_S.rf
  have in_X1 : ∀ w ∈ wsX10, w ∈ wp_X9_frameAt := wi_X9_frameAt_X1
  have in_X9 : ∀ w ∈ wsX90, w ∈ wp_X9_frameAt := wi_X9_frameAt_X9
  have k_0 := hts (.fieldLink RX9 23 "SteadyMachine$View" "heap" "LSteadyMachine$Heap;") (by decide +kernel)
  have k_1 := hts (.fieldLink RX9 37 "SteadyMachine$Heap" "top" "I") (by decide +kernel)
  have hl := lv_entry ([.ref (α.1 9), .int p1]) (n := 4) (Nat.le_of_ble_eq_true rfl)
  rw [lg_entry_eq]
  generalize (lg_sl ([.ref (α.1 9), .int p1]) ++ List.replicate (4 - (lg_sl ([.ref (α.1 9), .int p1])).length) Slot.unset).toArray = ls at hl ⊢
  have hl : lv_has ls 4 [(0, .ref (α.1 9)), (1, .int p1)] := hl
  have B48 : ∀ (σ : sm_S) (x2 : Int32), mp_X9_frameAt_48 K σ x2 → sm_J p l e (headSpec wp_X9_frameAt { frames := 2, cells := 0, slots := 0, locals := 46 }).room s m ([.ref (α.1 9), .int p1] : List Value).toArray below meth c (MQ below (va_Qi K (sm_B sm_wX D α) A) ([.ref (α.1 9), .int p1] : List Value).toArray s 0 0 A) D A 4 (sm_wX σ α) 48 [(2, .int x2)] [] := by
    intro σ x2 hF H locs ls hP hS hl
    unfold mp_X9_frameAt_48 at hF
    refine lv_iload_n hx hb dX9_frameAt_48 rfl (lv_at hl 0 rfl) ?_
    exact W.iret (v := x2) hx hb hr (fun t ht hW => ⟨⟨x2, σ, rfl, hF, (by unfold sm_B; rw [ht]; exact hP)⟩, hS.F ht⟩) hS.2.2 dX9_frameAt_49
  have B18 : ∀ (n : Nat) (σ : sm_S) (x1 : Int32) (x2 : Int32) (x3 : Int32), mp_X9_frameAt_18 K n σ x1 x2 x3 → sm_J p l e (headSpec wp_X9_frameAt { frames := 2, cells := 0, slots := 0, locals := 46 }).room s m ([.ref (α.1 9), .int p1] : List Value).toArray below meth c (MQ below (va_Qi K (sm_B sm_wX D α) A) ([.ref (α.1 9), .int p1] : List Value).toArray s 0 0 A) D A 4 (sm_wX σ α) 18 [(0, .ref (α.1 9)), (1, .int x1), (2, .int x2), (3, .int x3)] [] := by
    intro n18
    induction n18 with
    | zero =>
      intro σ x1 x2 x3 hF
      exact hF.elim
    | succ n18 ih18 =>
      intro σ x1 x2 x3 hF H locs ls hP hS hl
      unfold mp_X9_frameAt_18 at hF
      refine lv_iload_n hx hb dX9_frameAt_18 rfl (lv_at hl 3 rfl) ?_
      refine lv_iload_n hx hb dX9_frameAt_19 rfl (lv_at hl 1 rfl) ?_
      refine lv_icmp_ge (tgt := 48) hx hb dX9_frameAt_20 (by decide) (fun h1 => ?_) (fun h1 => ?_)
      · replace hF := hF.1 h1
        exact B48 σ x2 hF H locs ls hP hS (lv_sub hl [2] rfl)
      · replace hF := hF.2 h1
        refine lv_iload_n hx hb dX9_frameAt_23 rfl (lv_at hl 2 rfl) ?_
        refine lv_if_eq (tgt := 48) hx hb dX9_frameAt_24 (by decide) (fun h2 => ?_) (fun h2 => ?_)
        · replace hF := hF.1 h2
          exact B48 σ x2 hF H locs ls hP hS (lv_sub hl [2] rfl)
        · replace hF := hF.2 h2
          refine lv_aload_n hx hb dX9_frameAt_27 rfl (lv_at hl 0 rfl) ?_
          refine lv_aload_n hx hb dX9_frameAt_28 rfl (lv_at hl 0 rfl) ?_
          refine va_get (D := D) (ci := 9) (v := .ref (α.1 1)) (C := RX9) (T := TX9) (N := 3) hx hb hts in_X9 hown hK hP 9 (sm_gX9 σ α) rfl 2 (by decide) k_0 (fun _ h9 => h9) rfl dX9_frameAt_29 ?_
          refine lv_iload_n hx hb dX9_frameAt_32 rfl (lv_at hl 2 rfl) ?_
          refine lv_iconst (v := 3) hx hb dX9_frameAt_33 (by decide) ?_
          refine lv_iadd hx hb dX9_frameAt_34 ?_
          refine sm_vl (As := [.int (x2 + 3)]) (rest := [.ref (α.1 9)]) hP hK hD hE hS hA ⟨hx, hb, hml, hown, hts⟩ hl.1 (c_X1_peek l D H.size t0 σ α (x2 + 3) _ hF) (cwV 1 hts wg_X9_frameAt_X1_peek_27 rfl rfl rfl (by decide +kernel) ⟨Nat.le_of_ble_eq_true rfl, Nat.le_of_ble_eq_true rfl⟩) (va_recv hK hP (ci := 1) (q0 := 1) rfl (sm_gX1 σ α)) rfl rfl (Nat.le_of_ble_eq_true rfl) dX9_frameAt_35 ⟨Nat.zero_le _, Nat.zero_le _⟩ (fun r4 σ3 H locs hF hP hS => ?_)
          refine sm_vi (As := [.long r4]) (rest := []) hP hK hD hE hS hA ⟨hx, hb, hml, hown, hts⟩ hl.1 (c_X9_target l D H.size t0 σ3 α r4 _ hF) (cwV 1 hts wg_X9_frameAt_X9_target_41 rfl rfl rfl (by decide +kernel) ⟨Nat.le_of_ble_eq_true rfl, Nat.le_of_ble_eq_true rfl⟩) (va_recv hK hP (ci := 9) (q0 := 9) rfl (sm_gX9 σ3 α)) rfl rfl (Nat.le_of_ble_eq_true rfl) dX9_frameAt_38 ⟨Nat.zero_le _, Nat.zero_le _⟩ (fun r6 σ5 H locs hF hP hS => ?_)
          refine lv_istore_n (lv' := [(2, .int r6), (0, .ref (α.1 9)), (1, .int x1), (3, .int x3)]) hx hb dX9_frameAt_41 rfl hl (by decide) rfl (fun ls hl => ?_)
          obtain ⟨v7, ev7⟩ : ∃ y : Int32, y = x3 + 1 := ⟨_, rfl⟩
          replace hF := hF v7 ev7
          refine lv_iinc (v := v7) (lv' := [(3, .int v7), (2, .int r6), (0, .ref (α.1 9)), (1, .int x1)]) hx hb dX9_frameAt_42 hl (k := 3) rfl (by rw [ev7]; rfl) (by decide) rfl (fun ls hl => ?_)
          refine lv_goto (tgt := 18) hx hb dX9_frameAt_45 (by decide) ?_
          exact ih18 σ5 x1 r6 v7 hF H locs ls hP hS (lv_sub hl [2, 3, 1, 0] rfl)
  have B15 : ∀ (σ : sm_S) (x1 : Int32) (y0 : Int32), mp_X9_frameAt_15 K σ x1 y0 → sm_J p l e (headSpec wp_X9_frameAt { frames := 2, cells := 0, slots := 0, locals := 46 }).room s m ([.ref (α.1 9), .int p1] : List Value).toArray below meth c (MQ below (va_Qi K (sm_B sm_wX D α) A) ([.ref (α.1 9), .int p1] : List Value).toArray s 0 0 A) D A 4 (sm_wX σ α) 15 [(0, .ref (α.1 9)), (1, .int x1)] [.int y0] := by
    intro σ x1 y0 hF H locs ls hP hS hl
    unfold mp_X9_frameAt_15 at hF
    refine lv_istore_n (lv' := [(2, .int y0), (0, .ref (α.1 9)), (1, .int x1)]) hx hb dX9_frameAt_15 rfl hl (by decide) rfl (fun ls hl => ?_)
    refine lv_iconst (v := 0) hx hb dX9_frameAt_16 (by decide) ?_
    refine lv_istore_n (lv' := [(3, .int 0), (2, .int y0), (0, .ref (α.1 9)), (1, .int x1)]) hx hb dX9_frameAt_17 rfl hl (by decide) rfl (fun ls hl => ?_)
    obtain ⟨n18, hF⟩ := hF
    exact B18 n18 σ x1 y0 0 hF H locs ls hP hS (lv_sub hl [2, 3, 1, 0] rfl)
  unfold mp_X9_frameAt at hF
  revert hP hS
  generalize hLo : ([] : List Loc) = locs
  suffices h9 : ∀ (H : Heap) (locs : List Loc), va_P D vwCl (sm_wX σ α) H → va_S A s.heap H locs → W p l e (headSpec wp_X9_frameAt { frames := 2, cells := 0, slots := 0, locals := 46 }).room s m ([.ref (α.1 9), .int p1] : List Value).toArray below meth c H locs 0 0 (MQ below (va_Qi K (sm_B sm_wX D α) A) ([.ref (α.1 9), .int p1] : List Value).toArray s 0 0 A) (F0 m 0 ls []) from fun hP hS => h9 s.heap locs hP hS
  intro H locs hP hS
  refine lv_iload_n hx hb dX9_frameAt_0 rfl (lv_at hl 1 rfl) ?_
  refine lv_if_ge (tgt := 8) hx hb dX9_frameAt_1 (by decide) (fun h8 => ?_) (fun h8 => ?_)
  · replace hF := hF.1 h8
    refine lv_aload_n hx hb dX9_frameAt_8 rfl (lv_at hl 0 rfl) ?_
    refine va_get (D := D) (ci := 9) (v := .ref (α.1 1)) (C := RX9) (T := TX9) (N := 3) hx hb hts in_X9 hown hK hP 9 (sm_gX9 σ α) rfl 2 (by decide) k_0 (fun _ h9 => h9) rfl dX9_frameAt_9 ?_
    refine va_get (D := D) (ci := 1) (v := .int (σ.1 10)) (C := RX1) (T := TX1) (N := 16) hx hb hts in_X1 hown hK hP 1 (sm_gX1 σ α) rfl 12 (by decide) k_1 (fun _ h9 => h9) rfl dX9_frameAt_12 ?_
    exact B15 σ p1 (σ.1 10) hF H locs ls hP hS (lv_sub hl [0, 1] rfl)
  · replace hF := hF.2 h8
    refine lv_iconst (v := 0) hx hb dX9_frameAt_4 (by decide) ?_
    refine lv_goto (tgt := 15) hx hb dX9_frameAt_5 (by decide) ?_
    exact B15 σ p1 0 hF H locs ls hP hS (lv_sub hl [0, 1] rfl)
theorem dX9_ofFrame_0 : decode cX9_ofFrame 0 = .ok (.aload_n 0, 1) := by decide +kernel
theorem dX9_ofFrame_1 : decode cX9_ofFrame 1 = .ok (.getfield 23, 3) := by decide +kernel
theorem dX9_ofFrame_4 : decode cX9_ofFrame 4 = .ok (.iload_n 1, 1) := by decide +kernel
theorem dX9_ofFrame_5 : decode cX9_ofFrame 5 = .ok (.invokevirtual 27, 3) := by decide +kernel
theorem dX9_ofFrame_8 : decode cX9_ofFrame 8 = .ok (.l2i, 1) := by decide +kernel
theorem dX9_ofFrame_9 : decode cX9_ofFrame 9 = .ok (.istore_n 3, 1) := by decide +kernel
theorem dX9_ofFrame_10 : decode cX9_ofFrame 10 = .ok (.iload_n 2, 1) := by decide +kernel
theorem dX9_ofFrame_11 : decode cX9_ofFrame 11 = .ok (.tableswitch 65 0 3 #[29, 31, 43, 55], 29) := by decide +kernel
theorem dX9_ofFrame_40 : decode cX9_ofFrame 40 = .ok (.iload_n 3, 1) := by decide +kernel
theorem dX9_ofFrame_41 : decode cX9_ofFrame 41 = .ok (.ireturn, 1) := by decide +kernel
theorem dX9_ofFrame_42 : decode cX9_ofFrame 42 = .ok (.aload_n 0, 1) := by decide +kernel
theorem dX9_ofFrame_43 : decode cX9_ofFrame 43 = .ok (.getfield 23, 3) := by decide +kernel
theorem dX9_ofFrame_46 : decode cX9_ofFrame 46 = .ok (.iload_n 1, 1) := by decide +kernel
theorem dX9_ofFrame_47 : decode cX9_ofFrame 47 = .ok (.iconst 1, 1) := by decide +kernel
theorem dX9_ofFrame_48 : decode cX9_ofFrame 48 = .ok (.iadd, 1) := by decide +kernel
theorem dX9_ofFrame_49 : decode cX9_ofFrame 49 = .ok (.invokevirtual 27, 3) := by decide +kernel
theorem dX9_ofFrame_52 : decode cX9_ofFrame 52 = .ok (.l2i, 1) := by decide +kernel
theorem dX9_ofFrame_53 : decode cX9_ofFrame 53 = .ok (.ireturn, 1) := by decide +kernel
theorem dX9_ofFrame_54 : decode cX9_ofFrame 54 = .ok (.aload_n 0, 1) := by decide +kernel
theorem dX9_ofFrame_55 : decode cX9_ofFrame 55 = .ok (.getfield 23, 3) := by decide +kernel
theorem dX9_ofFrame_58 : decode cX9_ofFrame 58 = .ok (.iload_n 1, 1) := by decide +kernel
theorem dX9_ofFrame_59 : decode cX9_ofFrame 59 = .ok (.iconst 2, 1) := by decide +kernel
theorem dX9_ofFrame_60 : decode cX9_ofFrame 60 = .ok (.iadd, 1) := by decide +kernel
theorem dX9_ofFrame_61 : decode cX9_ofFrame 61 = .ok (.invokevirtual 27, 3) := by decide +kernel
theorem dX9_ofFrame_64 : decode cX9_ofFrame 64 = .ok (.l2i, 1) := by decide +kernel
theorem dX9_ofFrame_65 : decode cX9_ofFrame 65 = .ok (.ireturn, 1) := by decide +kernel
theorem dX9_ofFrame_66 : decode cX9_ofFrame 66 = .ok (.aload_n 0, 1) := by decide +kernel
theorem dX9_ofFrame_67 : decode cX9_ofFrame 67 = .ok (.getfield 22, 3) := by decide +kernel
theorem dX9_ofFrame_70 : decode cX9_ofFrame 70 = .ok (.getfield 44, 3) := by decide +kernel
theorem dX9_ofFrame_73 : decode cX9_ofFrame 73 = .ok (.iload_n 3, 1) := by decide +kernel
theorem dX9_ofFrame_74 : decode cX9_ofFrame 74 = .ok (.iaload, 1) := by decide +kernel
theorem dX9_ofFrame_75 : decode cX9_ofFrame 75 = .ok (.ireturn, 1) := by decide +kernel
theorem dX9_ofFrame_76 : decode cX9_ofFrame 76 = .ok (.iconst (-1), 1) := by decide +kernel
theorem dX9_ofFrame_77 : decode cX9_ofFrame 77 = .ok (.ireturn, 1) := by decide +kernel
def wp_X9_ofFrame : List Cond := .code yX9_ofFrame cX9_ofFrame 4 (some .int) :: ((([.fieldLink RX9 23 "SteadyMachine$View" "heap" "LSteadyMachine$Heap;", .fieldLink RX9 22 "SteadyMachine$View" "methods" "LSteadyMachine$Methods;", .fieldLink RX9 44 "SteadyMachine$Methods" "locals" "[I"] ++ (wsV RX9 27 RX1 yX1_peek wp_X1_peek)) ++ wsX40) ++ wsX90)
theorem wq_X9_ofFrame : wp_X9_ofFrame.all goodWord = true := wa_c rfl (wa_a (wa_a (wa_a (by decide +kernel) (wa_V wq_X1_peek)) uq_X4) uq_X9)
theorem wt_X9_ofFrame : GoodIn lw_tbl wp_X9_ofFrame := wm_c (List.mem_of_getElem? (i := 1126) (by decide +kernel)) rfl (wm_a (wm_a (wm_a (goodIn_r _ [563, 562, 240] (by decide +kernel) (by decide +kernel)) (wm_a (goodIn_r _ [1114, 1115, 1116, 144] (by decide +kernel) (by decide +kernel)) wt_X1_peek)) ut_X4) ut_X9)
theorem wg_X9_ofFrame_X1_peek_27 : GoodIn wp_X9_ofFrame (wsV RX9 27 RX1 yX1_peek wp_X1_peek) := goodIn_sub (fun w h => List.mem_cons_of_mem _ (List.mem_append_left _ (List.mem_append_left _ (List.mem_append_right _ h)))) (wa_V wq_X1_peek)
theorem wi_X9_ofFrame_X4 : ∀ w ∈ wsX40, w ∈ wp_X9_ofFrame := fun w h => List.mem_cons_of_mem _ (List.mem_append_left _ (List.mem_append_right _ h))
theorem wi_X9_ofFrame_X9 : ∀ w ∈ wsX90, w ∈ wp_X9_ofFrame := fun w h => List.mem_cons_of_mem _ (List.mem_append_right _ h)
set_option maxHeartbeats 4000000 in
set_option maxRecDepth 100000 in
theorem c_X9_ofFrame (l : Launch) (D : va_G) (sz t0 : Nat) (σ : sm_S) (α : sm_A) (p1 : Int32) (p2 : Int32) (K : Int32 → sm_S → Prop) (hF : mp_X9_ofFrame σ p1 p2 K) : Met l yX9_ofFrame wp_X9_ofFrame { frames := 1, cells := 0, slots := 0, locals := 21 } (sm_P sm_wX sm_tX 37 D sz t0 σ α [.ref (α.1 9), .int p1, .int p2]) (va_Qi K (sm_B sm_wX D α) (sm_a α 37 sz)) 0 0 (sm_a α 37 sz) := by
  refine Met.ofW (cc := cX9_ofFrame) (maxL := 4) (ret := (some .int)) (by decide) rfl ?_
  intro p e s m args below meth c s₁ B hml hv
  obtain ⟨rfl, hsz, hP, hK, hD0, hE⟩ := hv
  have hx := B.exec
  have hb := B.bytes
  have hr := B.returns
  have hts := atoms_spec (ws := wp_X9_ofFrame) B.pre
  have hown : s.vm.findClass RX9 = some m.cls := findClass_of_methodNamed B.named
  have hlocks := B.notSynchronized
  subst hsz
  have hD : sm_D (sm_a α 37 s.heap.size) α 37 := hD0.own
  have hA : ∀ q : Nat, s.heap.size ≤ q → sm_a α 37 s.heap.size q := fun q h => Or.inr h
  generalize hAe : sm_a α 37 s.heap.size = A at hD hA hE ⊢
  have hS : va_S A s.heap s.heap [] := va_S.rf
  have in_X4 : ∀ w ∈ wsX40, w ∈ wp_X9_ofFrame := wi_X9_ofFrame_X4
  have in_X9 : ∀ w ∈ wsX90, w ∈ wp_X9_ofFrame := wi_X9_ofFrame_X9
  have k_0 := hts (.fieldLink RX9 23 "SteadyMachine$View" "heap" "LSteadyMachine$Heap;") (by decide +kernel)
  have k_1 := hts (.fieldLink RX9 22 "SteadyMachine$View" "methods" "LSteadyMachine$Methods;") (by decide +kernel)
  have k_2 := hts (.fieldLink RX9 44 "SteadyMachine$Methods" "locals" "[I") (by decide +kernel)
  have hl := lv_entry ([.ref (α.1 9), .int p1, .int p2]) (n := 4) (Nat.le_of_ble_eq_true rfl)
  rw [lg_entry_eq]
  generalize (lg_sl ([.ref (α.1 9), .int p1, .int p2]) ++ List.replicate (4 - (lg_sl ([.ref (α.1 9), .int p1, .int p2])).length) Slot.unset).toArray = ls at hl ⊢
  have hl : lv_has ls 4 [(0, .ref (α.1 9)), (1, .int p1), (2, .int p2)] := hl
  unfold mp_X9_ofFrame at hF
  revert hP hS
  generalize hLo : ([] : List Loc) = locs
  suffices h9 : ∀ (H : Heap) (locs : List Loc), va_P D vwCl (sm_wX σ α) H → va_S A s.heap H locs → W p l e (headSpec wp_X9_ofFrame { frames := 1, cells := 0, slots := 0, locals := 21 }).room s m ([.ref (α.1 9), .int p1, .int p2] : List Value).toArray below meth c H locs 0 0 (MQ below (va_Qi K (sm_B sm_wX D α) A) ([.ref (α.1 9), .int p1, .int p2] : List Value).toArray s 0 0 A) (F0 m 0 ls []) from fun hP hS => h9 s.heap locs hP hS
  intro H locs hP hS
  refine lv_aload_n hx hb dX9_ofFrame_0 rfl (lv_at hl 0 rfl) ?_
  refine va_get (D := D) (ci := 9) (v := .ref (α.1 1)) (C := RX9) (T := TX9) (N := 3) hx hb hts in_X9 hown hK hP 9 (sm_gX9 σ α) rfl 2 (by decide) k_0 (fun _ h9 => h9) rfl dX9_ofFrame_1 ?_
  refine lv_iload_n hx hb dX9_ofFrame_4 rfl (lv_at hl 1 rfl) ?_
  refine sm_vl (As := [.int p1]) (rest := []) hP hK hD hE hS hA ⟨hx, hb, hml, hown, hts⟩ hl.1 (c_X1_peek l D H.size t0 σ α p1 _ hF) (cwV 1 hts wg_X9_ofFrame_X1_peek_27 rfl rfl rfl (by decide +kernel) ⟨Nat.le_of_ble_eq_true rfl, Nat.le_of_ble_eq_true rfl⟩) (va_recv hK hP (ci := 1) (q0 := 1) rfl (sm_gX1 σ α)) rfl rfl (Nat.le_of_ble_eq_true rfl) dX9_ofFrame_5 ⟨Nat.zero_le _, Nat.zero_le _⟩ (fun r2 σ1 H locs hF hP hS => ?_)
  refine lv_l2i hx hb dX9_ofFrame_8 rfl ?_
  refine lv_istore_n (lv' := [(3, .int r2.toInt32), (0, .ref (α.1 9)), (1, .int p1), (2, .int p2)]) hx hb dX9_ofFrame_9 rfl hl (by decide) rfl (fun ls hl => ?_)
  refine lv_iload_n hx hb dX9_ofFrame_10 rfl (lv_at hl 3 rfl) ?_
  by_cases h3 : p2 = 0
  · refine lv_tableIn (tgt := 40) hx hb dX9_ofFrame_11 (by rw [h3]; decide) (by rw [h3]; decide) (by rw [h3]; rfl) (by decide) ?_
    replace hF := hF.1 h3
    refine lv_iload_n hx hb dX9_ofFrame_40 rfl (lv_at hl 0 rfl) ?_
    exact W.iret (v := r2.toInt32) hx hb hr (fun t ht hW => ⟨⟨r2.toInt32, σ1, rfl, hF, (by unfold sm_B; rw [ht]; exact hP)⟩, hS.F ht⟩) hS.2.2 dX9_ofFrame_41
  by_cases h4 : p2 = 1
  · refine lv_tableIn (tgt := 42) hx hb dX9_ofFrame_11 (by rw [h4]; decide) (by rw [h4]; decide) (by rw [h4]; rfl) (by decide) ?_
    replace hF := hF.2.1 h4
    refine lv_aload_n hx hb dX9_ofFrame_42 rfl (lv_at hl 1 rfl) ?_
    refine va_get (D := D) (ci := 9) (v := .ref (α.1 1)) (C := RX9) (T := TX9) (N := 3) hx hb hts in_X9 hown hK hP 9 (sm_gX9 σ1 α) rfl 2 (by decide) k_0 (fun _ h9 => h9) rfl dX9_ofFrame_43 ?_
    refine lv_iload_n hx hb dX9_ofFrame_46 rfl (lv_at hl 2 rfl) ?_
    refine lv_iconst (v := 1) hx hb dX9_ofFrame_47 (by decide) ?_
    refine lv_iadd hx hb dX9_ofFrame_48 ?_
    refine sm_vl (As := [.int (p1 + 1)]) (rest := []) hP hK hD hE hS hA ⟨hx, hb, hml, hown, hts⟩ hl.1 (c_X1_peek l D H.size t0 σ1 α (p1 + 1) _ hF) (cwV 1 hts wg_X9_ofFrame_X1_peek_27 rfl rfl rfl (by decide +kernel) ⟨Nat.le_of_ble_eq_true rfl, Nat.le_of_ble_eq_true rfl⟩) (va_recv hK hP (ci := 1) (q0 := 1) rfl (sm_gX1 σ1 α)) rfl rfl (Nat.le_of_ble_eq_true rfl) dX9_ofFrame_49 ⟨Nat.zero_le _, Nat.zero_le _⟩ (fun r6 σ5 H locs hF hP hS => ?_)
    refine lv_l2i hx hb dX9_ofFrame_52 rfl ?_
    exact W.iret (v := r6.toInt32) hx hb hr (fun t ht hW => ⟨⟨r6.toInt32, σ5, rfl, hF, (by unfold sm_B; rw [ht]; exact hP)⟩, hS.F ht⟩) hS.2.2 dX9_ofFrame_53
  by_cases h7 : p2 = 2
  · refine lv_tableIn (tgt := 54) hx hb dX9_ofFrame_11 (by rw [h7]; decide) (by rw [h7]; decide) (by rw [h7]; rfl) (by decide) ?_
    replace hF := hF.2.2.1 h7
    refine lv_aload_n hx hb dX9_ofFrame_54 rfl (lv_at hl 1 rfl) ?_
    refine va_get (D := D) (ci := 9) (v := .ref (α.1 1)) (C := RX9) (T := TX9) (N := 3) hx hb hts in_X9 hown hK hP 9 (sm_gX9 σ1 α) rfl 2 (by decide) k_0 (fun _ h9 => h9) rfl dX9_ofFrame_55 ?_
    refine lv_iload_n hx hb dX9_ofFrame_58 rfl (lv_at hl 2 rfl) ?_
    refine lv_iconst (v := 2) hx hb dX9_ofFrame_59 (by decide) ?_
    refine lv_iadd hx hb dX9_ofFrame_60 ?_
    refine sm_vl (As := [.int (p1 + 2)]) (rest := []) hP hK hD hE hS hA ⟨hx, hb, hml, hown, hts⟩ hl.1 (c_X1_peek l D H.size t0 σ1 α (p1 + 2) _ hF) (cwV 1 hts wg_X9_ofFrame_X1_peek_27 rfl rfl rfl (by decide +kernel) ⟨Nat.le_of_ble_eq_true rfl, Nat.le_of_ble_eq_true rfl⟩) (va_recv hK hP (ci := 1) (q0 := 1) rfl (sm_gX1 σ1 α)) rfl rfl (Nat.le_of_ble_eq_true rfl) dX9_ofFrame_61 ⟨Nat.zero_le _, Nat.zero_le _⟩ (fun r9 σ8 H locs hF hP hS => ?_)
    refine lv_l2i hx hb dX9_ofFrame_64 rfl ?_
    exact W.iret (v := r9.toInt32) hx hb hr (fun t ht hW => ⟨⟨r9.toInt32, σ8, rfl, hF, (by unfold sm_B; rw [ht]; exact hP)⟩, hS.F ht⟩) hS.2.2 dX9_ofFrame_65
  by_cases h10 : p2 = 3
  · refine lv_tableIn (tgt := 66) hx hb dX9_ofFrame_11 (by rw [h10]; decide) (by rw [h10]; decide) (by rw [h10]; rfl) (by decide) ?_
    replace hF := hF.2.2.2.1 h10
    refine lv_aload_n hx hb dX9_ofFrame_66 rfl (lv_at hl 1 rfl) ?_
    refine va_get (D := D) (ci := 9) (v := .ref (α.1 4)) (C := RX9) (T := TX9) (N := 3) hx hb hts in_X9 hown hK hP 9 (sm_gX9 σ1 α) rfl 1 (by decide) k_1 (fun _ h9 => h9) rfl dX9_ofFrame_67 ?_
    refine va_get (D := D) (ci := 4) (v := .ref (α.1 24)) (C := RX4) (T := TX4) (N := 12) hx hb hts in_X4 hown hK hP 4 (sm_gX4 σ1 α) rfl 6 (by decide) k_2 (fun _ h9 => h9) rfl dX9_ofFrame_70 ?_
    refine lv_iload_n hx hb dX9_ofFrame_73 rfl (lv_at hl 0 rfl) ?_
    obtain ⟨h11, hF⟩ := hF
    refine va_iald (n := (σ1.2.2.1 24)) (f := (σ1.2.2.2.1 24)) hx hb hK hP 24 13 (sm_aX24 σ1 α) (sm_yX24 α) h11 dX9_ofFrame_74 ?_
    exact W.iret (v := ((σ1.2.2.2.1 24) r2.toInt32.toNatClampNeg)) hx hb hr (fun t ht hW => ⟨⟨((σ1.2.2.2.1 24) r2.toInt32.toNatClampNeg), σ1, rfl, hF, (by unfold sm_B; rw [ht]; exact hP)⟩, hS.F ht⟩) hS.2.2 dX9_ofFrame_75
  refine lv_tableOut (tgt := 76) hx hb dX9_ofFrame_11 (by have q0 := lv_neT h3 (show Int32.toInt 0 = 0 by decide); have q1 := lv_neT h4 (show Int32.toInt 1 = 1 by decide); have q2 := lv_neT h7 (show Int32.toInt 2 = 2 by decide); have q3 := lv_neT h10 (show Int32.toInt 3 = 3 by decide); omega) (by decide) ?_
  replace hF := hF.2.2.2.2 h3 h4 h7 h10
  refine lv_iconst (v := -1) hx hb dX9_ofFrame_76 (by decide) ?_
  exact W.iret (v := (-1)) hx hb hr (fun t ht hW => ⟨⟨(-1), σ1, rfl, hF, (by unfold sm_B; rw [ht]; exact hP)⟩, hS.F ht⟩) hS.2.2 dX9_ofFrame_77
theorem dX9_ofPlace_0 : decode cX9_ofPlace 0 = .ok (.iload_n 1, 1) := by decide +kernel
theorem dX9_ofPlace_1 : decode cX9_ofPlace 1 = .ok (.ifCond .eq 28, 3) := by decide +kernel
theorem dX9_ofPlace_4 : decode cX9_ofPlace 4 = .ok (.iload_n 2, 1) := by decide +kernel
theorem dX9_ofPlace_5 : decode cX9_ofPlace 5 = .ok (.ifCond .lt 24, 3) := by decide +kernel
theorem dX9_ofPlace_8 : decode cX9_ofPlace 8 = .ok (.iload_n 2, 1) := by decide +kernel
theorem dX9_ofPlace_9 : decode cX9_ofPlace 9 = .ok (.aload_n 0, 1) := by decide +kernel
theorem dX9_ofPlace_10 : decode cX9_ofPlace 10 = .ok (.iload_n 1, 1) := by decide +kernel
theorem dX9_ofPlace_11 : decode cX9_ofPlace 11 = .ok (.iconst 3, 1) := by decide +kernel
theorem dX9_ofPlace_12 : decode cX9_ofPlace 12 = .ok (.invokevirtual 50, 3) := by decide +kernel
theorem dX9_ofPlace_15 : decode cX9_ofPlace 15 = .ok (.aload_n 0, 1) := by decide +kernel
theorem dX9_ofPlace_16 : decode cX9_ofPlace 16 = .ok (.iload_n 1, 1) := by decide +kernel
theorem dX9_ofPlace_17 : decode cX9_ofPlace 17 = .ok (.iconst 2, 1) := by decide +kernel
theorem dX9_ofPlace_18 : decode cX9_ofPlace 18 = .ok (.invokevirtual 50, 3) := by decide +kernel
theorem dX9_ofPlace_21 : decode cX9_ofPlace 21 = .ok (.iadd, 1) := by decide +kernel
theorem dX9_ofPlace_22 : decode cX9_ofPlace 22 = .ok (.if_icmp .ge 7, 3) := by decide +kernel
theorem dX9_ofPlace_25 : decode cX9_ofPlace 25 = .ok (.iconst 1, 1) := by decide +kernel
theorem dX9_ofPlace_26 : decode cX9_ofPlace 26 = .ok (.goto 4, 3) := by decide +kernel
theorem dX9_ofPlace_29 : decode cX9_ofPlace 29 = .ok (.iconst 0, 1) := by decide +kernel
theorem dX9_ofPlace_30 : decode cX9_ofPlace 30 = .ok (.istore_n 3, 1) := by decide +kernel
theorem dX9_ofPlace_31 : decode cX9_ofPlace 31 = .ok (.iload_n 3, 1) := by decide +kernel
theorem dX9_ofPlace_32 : decode cX9_ofPlace 32 = .ok (.ifCond .eq 18, 3) := by decide +kernel
theorem dX9_ofPlace_35 : decode cX9_ofPlace 35 = .ok (.aload_n 0, 1) := by decide +kernel
theorem dX9_ofPlace_36 : decode cX9_ofPlace 36 = .ok (.getfield 23, 3) := by decide +kernel
theorem dX9_ofPlace_39 : decode cX9_ofPlace 39 = .ok (.iload_n 1, 1) := by decide +kernel
theorem dX9_ofPlace_40 : decode cX9_ofPlace 40 = .ok (.iconst 4, 1) := by decide +kernel
theorem dX9_ofPlace_41 : decode cX9_ofPlace 41 = .ok (.iadd, 1) := by decide +kernel
theorem dX9_ofPlace_42 : decode cX9_ofPlace 42 = .ok (.iload_n 2, 1) := by decide +kernel
theorem dX9_ofPlace_43 : decode cX9_ofPlace 43 = .ok (.iadd, 1) := by decide +kernel
theorem dX9_ofPlace_44 : decode cX9_ofPlace 44 = .ok (.invokevirtual 27, 3) := by decide +kernel
theorem dX9_ofPlace_47 : decode cX9_ofPlace 47 = .ok (.goto 6, 3) := by decide +kernel
theorem dX9_ofPlace_50 : decode cX9_ofPlace 50 = .ok (.ldc2_w 54, 3) := by decide +kernel
theorem dX9_ofPlace_53 : decode cX9_ofPlace 53 = .ok (.lreturn, 1) := by decide +kernel
def wp_X9_ofPlace : List Cond := .code yX9_ofPlace cX9_ofPlace 4 (some .long) :: ((([.constantLong RX9 54 (-1), .fieldLink RX9 23 "SteadyMachine$View" "heap" "LSteadyMachine$Heap;"] ++ (wsV RX9 27 RX1 yX1_peek wp_X1_peek)) ++ (wsV RX9 50 RX9 yX9_ofFrame wp_X9_ofFrame)) ++ wsX90)
theorem wq_X9_ofPlace : wp_X9_ofPlace.all goodWord = true := wa_c rfl (wa_a (wa_a (wa_a (by decide +kernel) (wa_V wq_X1_peek)) (wa_V wq_X9_ofFrame)) uq_X9)
theorem wt_X9_ofPlace : GoodIn lw_tbl wp_X9_ofPlace := wm_c (List.mem_of_getElem? (i := 1140) (by decide +kernel)) rfl (wm_a (wm_a (wm_a (goodIn_r _ [1136, 563] (by decide +kernel) (by decide +kernel)) (wm_a (goodIn_r _ [1114, 1115, 1116, 144] (by decide +kernel) (by decide +kernel)) wt_X1_peek)) (wm_a (goodIn_r _ [1141, 1124, 1125, 146] (by decide +kernel) (by decide +kernel)) wt_X9_ofFrame)) ut_X9)
theorem wg_X9_ofPlace_X1_peek_27 : GoodIn wp_X9_ofPlace (wsV RX9 27 RX1 yX1_peek wp_X1_peek) := goodIn_sub (fun w h => List.mem_cons_of_mem _ (List.mem_append_left _ (List.mem_append_left _ (List.mem_append_right _ h)))) (wa_V wq_X1_peek)
theorem wg_X9_ofPlace_X9_ofFrame_50 : GoodIn wp_X9_ofPlace (wsV RX9 50 RX9 yX9_ofFrame wp_X9_ofFrame) := goodIn_sub (fun w h => List.mem_cons_of_mem _ (List.mem_append_left _ (List.mem_append_right _ h))) (wa_V wq_X9_ofFrame)
theorem wi_X9_ofPlace_X9 : ∀ w ∈ wsX90, w ∈ wp_X9_ofPlace := fun w h => List.mem_cons_of_mem _ (List.mem_append_right _ h)
set_option maxHeartbeats 4000000 in
set_option maxRecDepth 100000 in
theorem c_X9_ofPlace (l : Launch) (D : va_G) (sz t0 : Nat) (σ : sm_S) (α : sm_A) (p1 : Int32) (p2 : Int32) (K : Int64 → sm_S → Prop) (hF : mp_X9_ofPlace σ p1 p2 K) : Met l yX9_ofPlace wp_X9_ofPlace { frames := 2, cells := 0, slots := 0, locals := 44 } (sm_P sm_wX sm_tX 37 D sz t0 σ α [.ref (α.1 9), .int p1, .int p2]) (va_Ql K (sm_B sm_wX D α) (sm_a α 37 sz)) 0 0 (sm_a α 37 sz) := by
  refine Met.ofW (cc := cX9_ofPlace) (maxL := 4) (ret := (some .long)) (by decide) rfl ?_
  intro p e s m args below meth c s₁ B hml hv
  obtain ⟨rfl, hsz, hP, hK, hD0, hE⟩ := hv
  have hx := B.exec
  have hb := B.bytes
  have hr := B.returns
  have hts := atoms_spec (ws := wp_X9_ofPlace) B.pre
  have hown : s.vm.findClass RX9 = some m.cls := findClass_of_methodNamed B.named
  have hlocks := B.notSynchronized
  subst hsz
  have hD : sm_D (sm_a α 37 s.heap.size) α 37 := hD0.own
  have hA : ∀ q : Nat, s.heap.size ≤ q → sm_a α 37 s.heap.size q := fun q h => Or.inr h
  generalize hAe : sm_a α 37 s.heap.size = A at hD hA hE ⊢
  have hS : va_S A s.heap s.heap [] := va_S.rf
  have in_X9 : ∀ w ∈ wsX90, w ∈ wp_X9_ofPlace := wi_X9_ofPlace_X9
  have k_0 := hts (.constantLong RX9 54 (-1)) (by decide +kernel)
  have k_1 := hts (.fieldLink RX9 23 "SteadyMachine$View" "heap" "LSteadyMachine$Heap;") (by decide +kernel)
  have hl := lv_entry ([.ref (α.1 9), .int p1, .int p2]) (n := 4) (Nat.le_of_ble_eq_true rfl)
  rw [lg_entry_eq]
  generalize (lg_sl ([.ref (α.1 9), .int p1, .int p2]) ++ List.replicate (4 - (lg_sl ([.ref (α.1 9), .int p1, .int p2])).length) Slot.unset).toArray = ls at hl ⊢
  have hl : lv_has ls 4 [(0, .ref (α.1 9)), (1, .int p1), (2, .int p2)] := hl
  have B53 : ∀ (σ : sm_S) (y0 : Int64), mp_X9_ofPlace_53 K σ y0 → sm_J p l e (headSpec wp_X9_ofPlace { frames := 2, cells := 0, slots := 0, locals := 44 }).room s m ([.ref (α.1 9), .int p1, .int p2] : List Value).toArray below meth c (MQ below (va_Ql K (sm_B sm_wX D α) A) ([.ref (α.1 9), .int p1, .int p2] : List Value).toArray s 0 0 A) D A 4 (sm_wX σ α) 53 [] [.long y0] := by
    intro σ y0 hF H locs ls hP hS hl
    unfold mp_X9_ofPlace_53 at hF
    exact W.lret (v := y0) hx hb hr (fun t ht hW => ⟨⟨y0, σ, rfl, hF, (by unfold sm_B; rw [ht]; exact hP)⟩, hS.F ht⟩) hS.2.2 dX9_ofPlace_53
  have B30 : ∀ (σ : sm_S) (x1 : Int32) (x2 : Int32) (y0 : Int32), mp_X9_ofPlace_30 K σ x1 x2 y0 → sm_J p l e (headSpec wp_X9_ofPlace { frames := 2, cells := 0, slots := 0, locals := 44 }).room s m ([.ref (α.1 9), .int p1, .int p2] : List Value).toArray below meth c (MQ below (va_Ql K (sm_B sm_wX D α) A) ([.ref (α.1 9), .int p1, .int p2] : List Value).toArray s 0 0 A) D A 4 (sm_wX σ α) 30 [(0, .ref (α.1 9)), (1, .int x1), (2, .int x2)] [.int y0] := by
    intro σ x1 x2 y0 hF H locs ls hP hS hl
    unfold mp_X9_ofPlace_30 at hF
    refine lv_istore_n (lv' := [(3, .int y0), (0, .ref (α.1 9)), (1, .int x1), (2, .int x2)]) hx hb dX9_ofPlace_30 rfl hl (by decide) rfl (fun ls hl => ?_)
    refine lv_iload_n hx hb dX9_ofPlace_31 rfl (lv_at hl 0 rfl) ?_
    refine lv_if_eq (tgt := 50) hx hb dX9_ofPlace_32 (by decide) (fun h1 => ?_) (fun h1 => ?_)
    · replace hF := hF.1 h1
      refine lv_ldc2 (v := -1) hx hb hown k_0 dX9_ofPlace_50 ?_
      exact B53 σ (-1) hF H locs ls hP hS (lv_sub hl [] rfl)
    · replace hF := hF.2 h1
      refine lv_aload_n hx hb dX9_ofPlace_35 rfl (lv_at hl 1 rfl) ?_
      refine va_get (D := D) (ci := 9) (v := .ref (α.1 1)) (C := RX9) (T := TX9) (N := 3) hx hb hts in_X9 hown hK hP 9 (sm_gX9 σ α) rfl 2 (by decide) k_1 (fun _ h9 => h9) rfl dX9_ofPlace_36 ?_
      refine lv_iload_n hx hb dX9_ofPlace_39 rfl (lv_at hl 2 rfl) ?_
      refine lv_iconst (v := 4) hx hb dX9_ofPlace_40 (by decide) ?_
      refine lv_iadd hx hb dX9_ofPlace_41 ?_
      refine lv_iload_n hx hb dX9_ofPlace_42 rfl (lv_at hl 3 rfl) ?_
      refine lv_iadd hx hb dX9_ofPlace_43 ?_
      refine sm_vl (As := [.int ((x1 + 4) + x2)]) (rest := []) hP hK hD hE hS hA ⟨hx, hb, hml, hown, hts⟩ hl.1 (c_X1_peek l D H.size t0 σ α ((x1 + 4) + x2) _ hF) (cwV 1 hts wg_X9_ofPlace_X1_peek_27 rfl rfl rfl (by decide +kernel) ⟨Nat.le_of_ble_eq_true rfl, Nat.le_of_ble_eq_true rfl⟩) (va_recv hK hP (ci := 1) (q0 := 1) rfl (sm_gX1 σ α)) rfl rfl (Nat.le_of_ble_eq_true rfl) dX9_ofPlace_44 ⟨Nat.zero_le _, Nat.zero_le _⟩ (fun r3 σ2 H locs hF hP hS => ?_)
      refine lv_goto (tgt := 53) hx hb dX9_ofPlace_47 (by decide) ?_
      exact B53 σ2 r3 hF H locs ls hP hS (lv_sub hl [] rfl)
  have B29 : ∀ (σ : sm_S) (x1 : Int32) (x2 : Int32), mp_X9_ofPlace_29 K σ x1 x2 → sm_J p l e (headSpec wp_X9_ofPlace { frames := 2, cells := 0, slots := 0, locals := 44 }).room s m ([.ref (α.1 9), .int p1, .int p2] : List Value).toArray below meth c (MQ below (va_Ql K (sm_B sm_wX D α) A) ([.ref (α.1 9), .int p1, .int p2] : List Value).toArray s 0 0 A) D A 4 (sm_wX σ α) 29 [(0, .ref (α.1 9)), (1, .int x1), (2, .int x2)] [] := by
    intro σ x1 x2 hF H locs ls hP hS hl
    unfold mp_X9_ofPlace_29 at hF
    refine lv_iconst (v := 0) hx hb dX9_ofPlace_29 (by decide) ?_
    exact B30 σ x1 x2 0 hF H locs ls hP hS (lv_sub hl [0, 1, 2] rfl)
  unfold mp_X9_ofPlace at hF
  revert hP hS
  generalize hLo : ([] : List Loc) = locs
  suffices h9 : ∀ (H : Heap) (locs : List Loc), va_P D vwCl (sm_wX σ α) H → va_S A s.heap H locs → W p l e (headSpec wp_X9_ofPlace { frames := 2, cells := 0, slots := 0, locals := 44 }).room s m ([.ref (α.1 9), .int p1, .int p2] : List Value).toArray below meth c H locs 0 0 (MQ below (va_Ql K (sm_B sm_wX D α) A) ([.ref (α.1 9), .int p1, .int p2] : List Value).toArray s 0 0 A) (F0 m 0 ls []) from fun hP hS => h9 s.heap locs hP hS
  intro H locs hP hS
  refine lv_iload_n hx hb dX9_ofPlace_0 rfl (lv_at hl 1 rfl) ?_
  refine lv_if_eq (tgt := 29) hx hb dX9_ofPlace_1 (by decide) (fun h4 => ?_) (fun h4 => ?_)
  · replace hF := hF.1 h4
    exact B29 σ p1 p2 hF H locs ls hP hS (lv_sub hl [0, 1, 2] rfl)
  · replace hF := hF.2 h4
    refine lv_iload_n hx hb dX9_ofPlace_4 rfl (lv_at hl 2 rfl) ?_
    refine lv_if_lt (tgt := 29) hx hb dX9_ofPlace_5 (by decide) (fun h5 => ?_) (fun h5 => ?_)
    · replace hF := hF.1 h5
      exact B29 σ p1 p2 hF H locs ls hP hS (lv_sub hl [0, 1, 2] rfl)
    · replace hF := hF.2 h5
      refine lv_iload_n hx hb dX9_ofPlace_8 rfl (lv_at hl 2 rfl) ?_
      refine lv_aload_n hx hb dX9_ofPlace_9 rfl (lv_at hl 0 rfl) ?_
      refine lv_iload_n hx hb dX9_ofPlace_10 rfl (lv_at hl 1 rfl) ?_
      refine lv_iconst (v := 3) hx hb dX9_ofPlace_11 (by decide) ?_
      refine sm_vi (As := [.int p1, .int 3]) (rest := [.int p2]) hP hK hD hE hS hA ⟨hx, hb, hml, hown, hts⟩ hl.1 (c_X9_ofFrame l D H.size t0 σ α p1 3 _ hF) (cwV 2 hts wg_X9_ofPlace_X9_ofFrame_50 rfl rfl rfl (by decide +kernel) ⟨Nat.le_of_ble_eq_true rfl, Nat.le_of_ble_eq_true rfl⟩) (va_recv hK hP (ci := 9) (q0 := 9) rfl (sm_gX9 σ α)) rfl rfl (Nat.le_of_ble_eq_true rfl) dX9_ofPlace_12 ⟨Nat.zero_le _, Nat.zero_le _⟩ (fun r7 σ6 H locs hF hP hS => ?_)
      refine lv_aload_n hx hb dX9_ofPlace_15 rfl (lv_at hl 0 rfl) ?_
      refine lv_iload_n hx hb dX9_ofPlace_16 rfl (lv_at hl 1 rfl) ?_
      refine lv_iconst (v := 2) hx hb dX9_ofPlace_17 (by decide) ?_
      refine sm_vi (As := [.int p1, .int 2]) (rest := [.int r7, .int p2]) hP hK hD hE hS hA ⟨hx, hb, hml, hown, hts⟩ hl.1 (c_X9_ofFrame l D H.size t0 σ6 α p1 2 _ hF) (cwV 2 hts wg_X9_ofPlace_X9_ofFrame_50 rfl rfl rfl (by decide +kernel) ⟨Nat.le_of_ble_eq_true rfl, Nat.le_of_ble_eq_true rfl⟩) (va_recv hK hP (ci := 9) (q0 := 9) rfl (sm_gX9 σ6 α)) rfl rfl (Nat.le_of_ble_eq_true rfl) dX9_ofPlace_18 ⟨Nat.zero_le _, Nat.zero_le _⟩ (fun r9 σ8 H locs hF hP hS => ?_)
      refine lv_iadd hx hb dX9_ofPlace_21 ?_
      refine lv_icmp_ge (tgt := 29) hx hb dX9_ofPlace_22 (by decide) (fun h10 => ?_) (fun h10 => ?_)
      · replace hF := hF.1 h10
        exact B29 σ8 p1 p2 hF H locs ls hP hS (lv_sub hl [0, 1, 2] rfl)
      · replace hF := hF.2 h10
        refine lv_iconst (v := 1) hx hb dX9_ofPlace_25 (by decide) ?_
        refine lv_goto (tgt := 30) hx hb dX9_ofPlace_26 (by decide) ?_
        exact B30 σ8 p1 p2 1 hF H locs ls hP hS (lv_sub hl [0, 1, 2] rfl)
theorem dX9_flying_0 : decode cX9_flying 0 = .ok (.iload_n 1, 1) := by decide +kernel
theorem dX9_flying_1 : decode cX9_flying 1 = .ok (.ifCond .ne 27, 3) := by decide +kernel
theorem dX9_flying_4 : decode cX9_flying 4 = .ok (.aload_n 0, 1) := by decide +kernel
theorem dX9_flying_5 : decode cX9_flying 5 = .ok (.getfield 23, 3) := by decide +kernel
theorem dX9_flying_8 : decode cX9_flying 8 = .ok (.getfield 56, 3) := by decide +kernel
theorem dX9_flying_11 : decode cX9_flying 11 = .ok (.ifCond .eq 17, 3) := by decide +kernel
theorem dX9_flying_14 : decode cX9_flying 14 = .ok (.iconst 1, 1) := by decide +kernel
theorem dX9_flying_15 : decode cX9_flying 15 = .ok (.aload_n 0, 1) := by decide +kernel
theorem dX9_flying_16 : decode cX9_flying 16 = .ok (.getfield 23, 3) := by decide +kernel
theorem dX9_flying_19 : decode cX9_flying 19 = .ok (.getfield 56, 3) := by decide +kernel
theorem dX9_flying_22 : decode cX9_flying 22 = .ok (.invokestatic 59, 3) := by decide +kernel
theorem dX9_flying_25 : decode cX9_flying 25 = .ok (.goto 6, 3) := by decide +kernel
theorem dX9_flying_28 : decode cX9_flying 28 = .ok (.ldc2_w 54, 3) := by decide +kernel
theorem dX9_flying_31 : decode cX9_flying 31 = .ok (.lreturn, 1) := by decide +kernel
def wp_X9_flying : List Cond := .code yX9_flying cX9_flying 2 (some .long) :: ((([.constantLong RX9 54 (-1), .fieldLink RX9 23 "SteadyMachine$View" "heap" "LSteadyMachine$Heap;", .fieldLink RX9 56 "SteadyMachine$Heap" "flies" "I"] ++ (va_wsS RX9 59 yX1_cell wp_X1_cell)) ++ wsX10) ++ wsX90)
theorem wq_X9_flying : wp_X9_flying.all goodWord = true := wa_c rfl (wa_a (wa_a (wa_a (by decide +kernel) (wa_S wq_X1_cell)) uq_X1) uq_X9)
theorem wt_X9_flying : GoodIn lw_tbl wp_X9_flying := wm_c (List.mem_of_getElem? (i := 1134) (by decide +kernel)) rfl (wm_a (wm_a (wm_a (goodIn_r _ [1136, 563, 466] (by decide +kernel) (by decide +kernel)) (wm_a (goodIn_r _ [1135, 919, 144] (by decide +kernel) (by decide +kernel)) wt_X1_cell)) ut_X1) ut_X9)
theorem wg_X9_flying_X1_cell_59 : GoodIn wp_X9_flying (va_wsS RX9 59 yX1_cell wp_X1_cell) := goodIn_sub (fun w h => List.mem_cons_of_mem _ (List.mem_append_left _ (List.mem_append_left _ (List.mem_append_right _ h)))) (wa_S wq_X1_cell)
theorem wi_X9_flying_X1 : ∀ w ∈ wsX10, w ∈ wp_X9_flying := fun w h => List.mem_cons_of_mem _ (List.mem_append_left _ (List.mem_append_right _ h))
theorem wi_X9_flying_X9 : ∀ w ∈ wsX90, w ∈ wp_X9_flying := fun w h => List.mem_cons_of_mem _ (List.mem_append_right _ h)
set_option maxHeartbeats 4000000 in
set_option maxRecDepth 100000 in
theorem c_X9_flying (l : Launch) (D : va_G) (sz t0 : Nat) (σ : sm_S) (α : sm_A) (p1 : Int32) (K : Int64 → sm_S → Prop) (hF : mp_X9_flying σ p1 K) : Met l yX9_flying wp_X9_flying { frames := 1, cells := 0, slots := 0, locals := 21 } (sm_P sm_wX sm_tX 37 D sz t0 σ α [.ref (α.1 9), .int p1]) (va_Ql K (sm_B sm_wX D α) (sm_a α 37 sz)) 0 0 (sm_a α 37 sz) := by
  refine Met.ofW (cc := cX9_flying) (maxL := 2) (ret := (some .long)) (by decide) rfl ?_
  intro p e s m args below meth c s₁ B hml hv
  obtain ⟨rfl, hsz, hP, hK, hD0, hE⟩ := hv
  have hx := B.exec
  have hb := B.bytes
  have hr := B.returns
  have hts := atoms_spec (ws := wp_X9_flying) B.pre
  have hown : s.vm.findClass RX9 = some m.cls := findClass_of_methodNamed B.named
  have hlocks := B.notSynchronized
  subst hsz
  have hD : sm_D (sm_a α 37 s.heap.size) α 37 := hD0.own
  have hA : ∀ q : Nat, s.heap.size ≤ q → sm_a α 37 s.heap.size q := fun q h => Or.inr h
  generalize hAe : sm_a α 37 s.heap.size = A at hD hA hE ⊢
  have hS : va_S A s.heap s.heap [] := va_S.rf
  have in_X1 : ∀ w ∈ wsX10, w ∈ wp_X9_flying := wi_X9_flying_X1
  have in_X9 : ∀ w ∈ wsX90, w ∈ wp_X9_flying := wi_X9_flying_X9
  have k_0 := hts (.constantLong RX9 54 (-1)) (by decide +kernel)
  have k_1 := hts (.fieldLink RX9 23 "SteadyMachine$View" "heap" "LSteadyMachine$Heap;") (by decide +kernel)
  have k_2 := hts (.fieldLink RX9 56 "SteadyMachine$Heap" "flies" "I") (by decide +kernel)
  have hl := lv_entry ([.ref (α.1 9), .int p1]) (n := 2) (Nat.le_of_ble_eq_true rfl)
  rw [lg_entry_eq]
  generalize (lg_sl ([.ref (α.1 9), .int p1]) ++ List.replicate (2 - (lg_sl ([.ref (α.1 9), .int p1])).length) Slot.unset).toArray = ls at hl ⊢
  have hl : lv_has ls 2 [(0, .ref (α.1 9)), (1, .int p1)] := hl
  have B31 : ∀ (σ : sm_S) (y0 : Int64), mp_X9_flying_31 K σ y0 → sm_J p l e (headSpec wp_X9_flying { frames := 1, cells := 0, slots := 0, locals := 21 }).room s m ([.ref (α.1 9), .int p1] : List Value).toArray below meth c (MQ below (va_Ql K (sm_B sm_wX D α) A) ([.ref (α.1 9), .int p1] : List Value).toArray s 0 0 A) D A 2 (sm_wX σ α) 31 [] [.long y0] := by
    intro σ y0 hF H locs ls hP hS hl
    unfold mp_X9_flying_31 at hF
    exact W.lret (v := y0) hx hb hr (fun t ht hW => ⟨⟨y0, σ, rfl, hF, (by unfold sm_B; rw [ht]; exact hP)⟩, hS.F ht⟩) hS.2.2 dX9_flying_31
  have B28 : ∀ (σ : sm_S), mp_X9_flying_28 K σ → sm_J p l e (headSpec wp_X9_flying { frames := 1, cells := 0, slots := 0, locals := 21 }).room s m ([.ref (α.1 9), .int p1] : List Value).toArray below meth c (MQ below (va_Ql K (sm_B sm_wX D α) A) ([.ref (α.1 9), .int p1] : List Value).toArray s 0 0 A) D A 2 (sm_wX σ α) 28 [] [] := by
    intro σ hF H locs ls hP hS hl
    unfold mp_X9_flying_28 at hF
    refine lv_ldc2 (v := -1) hx hb hown k_0 dX9_flying_28 ?_
    exact B31 σ (-1) hF H locs ls hP hS (lv_sub hl [] rfl)
  unfold mp_X9_flying at hF
  revert hP hS
  generalize hLo : ([] : List Loc) = locs
  suffices h9 : ∀ (H : Heap) (locs : List Loc), va_P D vwCl (sm_wX σ α) H → va_S A s.heap H locs → W p l e (headSpec wp_X9_flying { frames := 1, cells := 0, slots := 0, locals := 21 }).room s m ([.ref (α.1 9), .int p1] : List Value).toArray below meth c H locs 0 0 (MQ below (va_Ql K (sm_B sm_wX D α) A) ([.ref (α.1 9), .int p1] : List Value).toArray s 0 0 A) (F0 m 0 ls []) from fun hP hS => h9 s.heap locs hP hS
  intro H locs hP hS
  refine lv_iload_n hx hb dX9_flying_0 rfl (lv_at hl 1 rfl) ?_
  refine lv_if_ne (tgt := 28) hx hb dX9_flying_1 (by decide) (fun h1 => ?_) (fun h1 => ?_)
  · replace hF := hF.1 h1
    exact B28 σ hF H locs ls hP hS (lv_sub hl [] rfl)
  · replace hF := hF.2 h1
    refine lv_aload_n hx hb dX9_flying_4 rfl (lv_at hl 0 rfl) ?_
    refine va_get (D := D) (ci := 9) (v := .ref (α.1 1)) (C := RX9) (T := TX9) (N := 3) hx hb hts in_X9 hown hK hP 9 (sm_gX9 σ α) rfl 2 (by decide) k_1 (fun _ h9 => h9) rfl dX9_flying_5 ?_
    refine va_get (D := D) (ci := 1) (v := .int (σ.1 11)) (C := RX1) (T := TX1) (N := 16) hx hb hts in_X1 hown hK hP 1 (sm_gX1 σ α) rfl 13 (by decide) k_2 (fun _ h9 => h9) rfl dX9_flying_8 ?_
    refine lv_if_eq (tgt := 28) hx hb dX9_flying_11 (by decide) (fun h2 => ?_) (fun h2 => ?_)
    · replace hF := hF.1 h2
      exact B28 σ hF H locs ls hP hS (lv_sub hl [] rfl)
    · replace hF := hF.2 h2
      refine lv_iconst (v := 1) hx hb dX9_flying_14 (by decide) ?_
      refine lv_aload_n hx hb dX9_flying_15 rfl (lv_at hl 0 rfl) ?_
      refine va_get (D := D) (ci := 9) (v := .ref (α.1 1)) (C := RX9) (T := TX9) (N := 3) hx hb hts in_X9 hown hK hP 9 (sm_gX9 σ α) rfl 2 (by decide) k_1 (fun _ h9 => h9) rfl dX9_flying_16 ?_
      refine va_get (D := D) (ci := 1) (v := .int (σ.1 11)) (C := RX1) (T := TX1) (N := 16) hx hb hts in_X1 hown hK hP 1 (sm_gX1 σ α) rfl 13 (by decide) k_2 (fun _ h9 => h9) rfl dX9_flying_19 ?_
      refine sm_sl (As := [.int 1, .int (σ.1 11)]) (rest := []) hP hK hD hE hS hA ⟨hx, hb, hml, hown, hts⟩ hl.1 (c_X1_cell l D H.size t0 σ α 1 (σ.1 11) _ hF) (va_cwS 2 hts wg_X9_flying_X1_cell_59 rfl rfl rfl (by decide +kernel) ⟨Nat.le_of_ble_eq_true rfl, Nat.le_of_ble_eq_true rfl⟩) rfl rfl (Nat.le_of_ble_eq_true rfl) dX9_flying_22 ⟨Nat.zero_le _, Nat.zero_le _⟩ (fun r4 σ3 H locs hF hP hS => ?_)
      refine lv_goto (tgt := 31) hx hb dX9_flying_25 (by decide) ?_
      exact B31 σ3 r4 hF H locs ls hP hS (lv_sub hl [] rfl)
theorem dX9_item_0 : decode cX9_item 0 = .ok (.iload_n 1, 1) := by decide +kernel
theorem dX9_item_1 : decode cX9_item 1 = .ok (.istore 5, 2) := by decide +kernel
theorem dX9_item_3 : decode cX9_item 3 = .ok (.iload 4, 2) := by decide +kernel
theorem dX9_item_5 : decode cX9_item 5 = .ok (.istore 6, 2) := by decide +kernel
theorem dX9_item_7 : decode cX9_item 7 = .ok (.lload_n 2, 1) := by decide +kernel
theorem dX9_item_8 : decode cX9_item 8 = .ok (.invokestatic 76, 3) := by decide +kernel
theorem dX9_item_11 : decode cX9_item 11 = .ok (.invokestatic 83, 3) := by decide +kernel
theorem dX9_item_14 : decode cX9_item 14 = .ok (.istore 7, 2) := by decide +kernel
theorem dX9_item_16 : decode cX9_item 16 = .ok (.iload 7, 2) := by decide +kernel
theorem dX9_item_18 : decode cX9_item 18 = .ok (.iconst 1, 1) := by decide +kernel
theorem dX9_item_19 : decode cX9_item 19 = .ok (.if_icmp .le 63, 3) := by decide +kernel
theorem dX9_item_22 : decode cX9_item 22 = .ok (.aload_n 0, 1) := by decide +kernel
theorem dX9_item_23 : decode cX9_item 23 = .ok (.aload_n 0, 1) := by decide +kernel
theorem dX9_item_24 : decode cX9_item 24 = .ok (.getfield 23, 3) := by decide +kernel
theorem dX9_item_27 : decode cX9_item 27 = .ok (.iload 5, 2) := by decide +kernel
theorem dX9_item_29 : decode cX9_item 29 = .ok (.iconst 1, 1) := by decide +kernel
theorem dX9_item_30 : decode cX9_item 30 = .ok (.iadd, 1) := by decide +kernel
theorem dX9_item_31 : decode cX9_item 31 = .ok (.iload 6, 2) := by decide +kernel
theorem dX9_item_33 : decode cX9_item 33 = .ok (.iload 7, 2) := by decide +kernel
theorem dX9_item_35 : decode cX9_item 35 = .ok (.idiv, 1) := by decide +kernel
theorem dX9_item_36 : decode cX9_item 36 = .ok (.iadd, 1) := by decide +kernel
theorem dX9_item_37 : decode cX9_item 37 = .ok (.invokevirtual 27, 3) := by decide +kernel
theorem dX9_item_40 : decode cX9_item 40 = .ok (.invokevirtual 41, 3) := by decide +kernel
theorem dX9_item_43 : decode cX9_item 43 = .ok (.istore 5, 2) := by decide +kernel
theorem dX9_item_45 : decode cX9_item 45 = .ok (.iload 5, 2) := by decide +kernel
theorem dX9_item_47 : decode cX9_item 47 = .ok (.ifCond .ne 18, 3) := by decide +kernel
theorem dX9_item_50 : decode cX9_item 50 = .ok (.lload_n 2, 1) := by decide +kernel
theorem dX9_item_51 : decode cX9_item 51 = .ok (.invokestatic 87, 3) := by decide +kernel
theorem dX9_item_54 : decode cX9_item 54 = .ok (.ifCond .ne 7, 3) := by decide +kernel
theorem dX9_item_57 : decode cX9_item 57 = .ok (.lconst 0, 1) := by decide +kernel
theorem dX9_item_58 : decode cX9_item 58 = .ok (.goto 6, 3) := by decide +kernel
theorem dX9_item_61 : decode cX9_item 61 = .ok (.ldc2_w 69, 3) := by decide +kernel
theorem dX9_item_64 : decode cX9_item 64 = .ok (.lreturn, 1) := by decide +kernel
theorem dX9_item_65 : decode cX9_item 65 = .ok (.iload 6, 2) := by decide +kernel
theorem dX9_item_67 : decode cX9_item 67 = .ok (.iload 7, 2) := by decide +kernel
theorem dX9_item_69 : decode cX9_item 69 = .ok (.irem, 1) := by decide +kernel
theorem dX9_item_70 : decode cX9_item 70 = .ok (.istore 6, 2) := by decide +kernel
theorem dX9_item_72 : decode cX9_item 72 = .ok (.iload 7, 2) := by decide +kernel
theorem dX9_item_74 : decode cX9_item 74 = .ok (.bipush 15, 2) := by decide +kernel
theorem dX9_item_76 : decode cX9_item 76 = .ok (.idiv, 1) := by decide +kernel
theorem dX9_item_77 : decode cX9_item 77 = .ok (.istore 7, 2) := by decide +kernel
theorem dX9_item_79 : decode cX9_item 79 = .ok (.goto (-63), 3) := by decide +kernel
theorem dX9_item_82 : decode cX9_item 82 = .ok (.aload_n 0, 1) := by decide +kernel
theorem dX9_item_83 : decode cX9_item 83 = .ok (.getfield 23, 3) := by decide +kernel
theorem dX9_item_86 : decode cX9_item 86 = .ok (.iload 5, 2) := by decide +kernel
theorem dX9_item_88 : decode cX9_item 88 = .ok (.iconst 1, 1) := by decide +kernel
theorem dX9_item_89 : decode cX9_item 89 = .ok (.iadd, 1) := by decide +kernel
theorem dX9_item_90 : decode cX9_item 90 = .ok (.iload 6, 2) := by decide +kernel
theorem dX9_item_92 : decode cX9_item 92 = .ok (.iadd, 1) := by decide +kernel
theorem dX9_item_93 : decode cX9_item 93 = .ok (.invokevirtual 27, 3) := by decide +kernel
theorem dX9_item_96 : decode cX9_item 96 = .ok (.lreturn, 1) := by decide +kernel
def wp_X9_item : List Cond := .code yX9_item cX9_item 8 (some .long) :: (((((([.fieldLink RX9 23 "SteadyMachine$View" "heap" "LSteadyMachine$Heap;", .constantLong RX9 69 (4294967296)] ++ (wsV RX9 27 RX1 yX1_peek wp_X1_peek)) ++ (wsV RX9 41 RX9 yX9_target wp_X9_target)) ++ (va_wsS RX9 87 yX1_rowItem wp_X1_rowItem)) ++ (va_wsS RX9 76 yX1_rowLength wp_X1_rowLength)) ++ (va_wsS RX9 83 yX1_span wp_X1_span)) ++ wsX90)
theorem wq_X9_item : wp_X9_item.all goodWord = true := wa_c rfl (wa_a (wa_a (wa_a (wa_a (wa_a (wa_a (by decide +kernel) (wa_V wq_X1_peek)) (wa_V wq_X9_target)) (wa_S wq_X1_rowItem)) (wa_S wq_X1_rowLength)) (wa_S wq_X1_span)) uq_X9)
theorem wt_X9_item : GoodIn lw_tbl wp_X9_item := wm_c (List.mem_of_getElem? (i := 1156) (by decide +kernel)) rfl (wm_a (wm_a (wm_a (wm_a (wm_a (wm_a (goodIn_r _ [563, 1151] (by decide +kernel) (by decide +kernel)) (wm_a (goodIn_r _ [1114, 1115, 1116, 144] (by decide +kernel) (by decide +kernel)) wt_X1_peek)) (wm_a (goodIn_r _ [1118, 1120, 65, 146] (by decide +kernel) (by decide +kernel)) wt_X9_target)) (wm_a (goodIn_r _ [1158, 1058, 144] (by decide +kernel) (by decide +kernel)) wt_X1_rowItem)) (wm_a (goodIn_r _ [1152, 1047, 144] (by decide +kernel) (by decide +kernel)) wt_X1_rowLength)) (wm_a (goodIn_r _ [1157, 1040, 144] (by decide +kernel) (by decide +kernel)) wt_X1_span)) ut_X9)
theorem wg_X9_item_X1_peek_27 : GoodIn wp_X9_item (wsV RX9 27 RX1 yX1_peek wp_X1_peek) := goodIn_sub (fun w h => List.mem_cons_of_mem _ (List.mem_append_left _ (List.mem_append_left _ (List.mem_append_left _ (List.mem_append_left _ (List.mem_append_left _ (List.mem_append_right _ h))))))) (wa_V wq_X1_peek)
theorem wg_X9_item_X9_target_41 : GoodIn wp_X9_item (wsV RX9 41 RX9 yX9_target wp_X9_target) := goodIn_sub (fun w h => List.mem_cons_of_mem _ (List.mem_append_left _ (List.mem_append_left _ (List.mem_append_left _ (List.mem_append_left _ (List.mem_append_right _ h)))))) (wa_V wq_X9_target)
theorem wg_X9_item_X1_rowItem_87 : GoodIn wp_X9_item (va_wsS RX9 87 yX1_rowItem wp_X1_rowItem) := goodIn_sub (fun w h => List.mem_cons_of_mem _ (List.mem_append_left _ (List.mem_append_left _ (List.mem_append_left _ (List.mem_append_right _ h))))) (wa_S wq_X1_rowItem)
theorem wg_X9_item_X1_rowLength_76 : GoodIn wp_X9_item (va_wsS RX9 76 yX1_rowLength wp_X1_rowLength) := goodIn_sub (fun w h => List.mem_cons_of_mem _ (List.mem_append_left _ (List.mem_append_left _ (List.mem_append_right _ h)))) (wa_S wq_X1_rowLength)
theorem wg_X9_item_X1_span_83 : GoodIn wp_X9_item (va_wsS RX9 83 yX1_span wp_X1_span) := goodIn_sub (fun w h => List.mem_cons_of_mem _ (List.mem_append_left _ (List.mem_append_right _ h))) (wa_S wq_X1_span)
theorem wi_X9_item_X9 : ∀ w ∈ wsX90, w ∈ wp_X9_item := fun w h => List.mem_cons_of_mem _ (List.mem_append_right _ h)
set_option maxHeartbeats 4000000 in
set_option maxRecDepth 100000 in
theorem c_X9_item (l : Launch) (D : va_G) (sz t0 : Nat) (σ : sm_S) (α : sm_A) (p1 : Int32) (p2 : Int64) (p3 : Int32) (K : Int64 → sm_S → Prop) (hF : mp_X9_item σ p1 p2 p3 K) : Met l yX9_item wp_X9_item { frames := 2, cells := 0, slots := 0, locals := 46 } (sm_P sm_wX sm_tX 37 D sz t0 σ α [.ref (α.1 9), .int p1, .long p2, .int p3]) (va_Ql K (sm_B sm_wX D α) (sm_a α 37 sz)) 0 0 (sm_a α 37 sz) := by
  refine Met.ofW (cc := cX9_item) (maxL := 8) (ret := (some .long)) (by decide) rfl ?_
  intro p e s m args below meth c s₁ B hml hv
  obtain ⟨rfl, hsz, hP, hK, hD0, hE⟩ := hv
  have hx := B.exec
  have hb := B.bytes
  have hr := B.returns
  have hts := atoms_spec (ws := wp_X9_item) B.pre
  have hown : s.vm.findClass RX9 = some m.cls := findClass_of_methodNamed B.named
  have hlocks := B.notSynchronized
  subst hsz
  have hD : sm_D (sm_a α 37 s.heap.size) α 37 := hD0.own
  have hA : ∀ q : Nat, s.heap.size ≤ q → sm_a α 37 s.heap.size q := fun q h => Or.inr h
  generalize hAe : sm_a α 37 s.heap.size = A at hD hA hE ⊢
  have hS : va_S A s.heap s.heap [] := va_S.rf
  have in_X9 : ∀ w ∈ wsX90, w ∈ wp_X9_item := wi_X9_item_X9
  have k_0 := hts (.fieldLink RX9 23 "SteadyMachine$View" "heap" "LSteadyMachine$Heap;") (by decide +kernel)
  have k_1 := hts (.constantLong RX9 69 (4294967296)) (by decide +kernel)
  have hl := lv_entry ([.ref (α.1 9), .int p1, .long p2, .int p3]) (n := 8) (Nat.le_of_ble_eq_true rfl)
  rw [lg_entry_eq]
  generalize (lg_sl ([.ref (α.1 9), .int p1, .long p2, .int p3]) ++ List.replicate (8 - (lg_sl ([.ref (α.1 9), .int p1, .long p2, .int p3])).length) Slot.unset).toArray = ls at hl ⊢
  have hl : lv_has ls 8 [(0, .ref (α.1 9)), (1, .int p1), (2, .long p2), (4, .int p3)] := hl
  have B64 : ∀ (L16 : sm_S → Int64 → Int32 → Int32 → Int32 → Prop) (hL16 : ∀ (σ : sm_S) (x2 : Int64) (x5 : Int32) (x6 : Int32) (x7 : Int32), L16 σ x2 x5 x6 x7 → sm_J p l e (headSpec wp_X9_item { frames := 2, cells := 0, slots := 0, locals := 46 }).room s m ([.ref (α.1 9), .int p1, .long p2, .int p3] : List Value).toArray below meth c (MQ below (va_Ql K (sm_B sm_wX D α) A) ([.ref (α.1 9), .int p1, .long p2, .int p3] : List Value).toArray s 0 0 A) D A 8 (sm_wX σ α) 16 [(0, .ref (α.1 9)), (2, .long x2), (5, .int x5), (6, .int x6), (7, .int x7)] []) (σ : sm_S) (y0 : Int64), mp_X9_item_64 L16 K σ y0 → sm_J p l e (headSpec wp_X9_item { frames := 2, cells := 0, slots := 0, locals := 46 }).room s m ([.ref (α.1 9), .int p1, .long p2, .int p3] : List Value).toArray below meth c (MQ below (va_Ql K (sm_B sm_wX D α) A) ([.ref (α.1 9), .int p1, .long p2, .int p3] : List Value).toArray s 0 0 A) D A 8 (sm_wX σ α) 64 [] [.long y0] := by
    intro L16 hL16 σ y0 hF H locs ls hP hS hl
    unfold mp_X9_item_64 at hF
    exact W.lret (v := y0) hx hb hr (fun t ht hW => ⟨⟨y0, σ, rfl, hF, (by unfold sm_B; rw [ht]; exact hP)⟩, hS.F ht⟩) hS.2.2 dX9_item_64
  have B16 : ∀ (n : Nat) (σ : sm_S) (x2 : Int64) (x5 : Int32) (x6 : Int32) (x7 : Int32), mp_X9_item_16 K n σ x2 x5 x6 x7 → sm_J p l e (headSpec wp_X9_item { frames := 2, cells := 0, slots := 0, locals := 46 }).room s m ([.ref (α.1 9), .int p1, .long p2, .int p3] : List Value).toArray below meth c (MQ below (va_Ql K (sm_B sm_wX D α) A) ([.ref (α.1 9), .int p1, .long p2, .int p3] : List Value).toArray s 0 0 A) D A 8 (sm_wX σ α) 16 [(0, .ref (α.1 9)), (2, .long x2), (5, .int x5), (6, .int x6), (7, .int x7)] [] := by
    intro n16
    induction n16 with
    | zero =>
      intro σ x2 x5 x6 x7 hF
      exact hF.elim
    | succ n16 ih16 =>
      intro σ x2 x5 x6 x7 hF H locs ls hP hS hl
      unfold mp_X9_item_16 at hF
      refine lv_iload hx hb dX9_item_16 (lv_at hl 4 rfl) ?_
      refine lv_iconst (v := 1) hx hb dX9_item_18 (by decide) ?_
      refine lv_icmp_le (tgt := 82) hx hb dX9_item_19 (by decide) (fun h1 => ?_) (fun h1 => ?_)
      · replace hF := hF.1 h1
        refine lv_aload_n hx hb dX9_item_82 rfl (lv_at hl 0 rfl) ?_
        refine va_get (D := D) (ci := 9) (v := .ref (α.1 1)) (C := RX9) (T := TX9) (N := 3) hx hb hts in_X9 hown hK hP 9 (sm_gX9 σ α) rfl 2 (by decide) k_0 (fun _ h9 => h9) rfl dX9_item_83 ?_
        refine lv_iload hx hb dX9_item_86 (lv_at hl 2 rfl) ?_
        refine lv_iconst (v := 1) hx hb dX9_item_88 (by decide) ?_
        refine lv_iadd hx hb dX9_item_89 ?_
        refine lv_iload hx hb dX9_item_90 (lv_at hl 3 rfl) ?_
        refine lv_iadd hx hb dX9_item_92 ?_
        refine sm_vl (As := [.int ((x5 + 1) + x6)]) (rest := []) hP hK hD hE hS hA ⟨hx, hb, hml, hown, hts⟩ hl.1 (c_X1_peek l D H.size t0 σ α ((x5 + 1) + x6) _ hF) (cwV 1 hts wg_X9_item_X1_peek_27 rfl rfl rfl (by decide +kernel) ⟨Nat.le_of_ble_eq_true rfl, Nat.le_of_ble_eq_true rfl⟩) (va_recv hK hP (ci := 1) (q0 := 1) rfl (sm_gX1 σ α)) rfl rfl (Nat.le_of_ble_eq_true rfl) dX9_item_93 ⟨Nat.zero_le _, Nat.zero_le _⟩ (fun r3 σ2 H locs hF hP hS => ?_)
        exact W.lret (v := r3) hx hb hr (fun t ht hW => ⟨⟨r3, σ2, rfl, hF, (by unfold sm_B; rw [ht]; exact hP)⟩, hS.F ht⟩) hS.2.2 dX9_item_96
      · replace hF := hF.2 h1
        refine lv_aload_n hx hb dX9_item_22 rfl (lv_at hl 0 rfl) ?_
        refine lv_aload_n hx hb dX9_item_23 rfl (lv_at hl 0 rfl) ?_
        refine va_get (D := D) (ci := 9) (v := .ref (α.1 1)) (C := RX9) (T := TX9) (N := 3) hx hb hts in_X9 hown hK hP 9 (sm_gX9 σ α) rfl 2 (by decide) k_0 (fun _ h9 => h9) rfl dX9_item_24 ?_
        refine lv_iload hx hb dX9_item_27 (lv_at hl 2 rfl) ?_
        refine lv_iconst (v := 1) hx hb dX9_item_29 (by decide) ?_
        refine lv_iadd hx hb dX9_item_30 ?_
        refine lv_iload hx hb dX9_item_31 (lv_at hl 3 rfl) ?_
        refine lv_iload hx hb dX9_item_33 (lv_at hl 4 rfl) ?_
        obtain ⟨h15, hF⟩ := hF
        refine lv_idiv hx hb dX9_item_35 h15 ?_
        refine lv_iadd hx hb dX9_item_36 ?_
        refine sm_vl (As := [.int ((x5 + 1) + (x6 / x7))]) (rest := [.ref (α.1 9)]) hP hK hD hE hS hA ⟨hx, hb, hml, hown, hts⟩ hl.1 (c_X1_peek l D H.size t0 σ α ((x5 + 1) + (x6 / x7)) _ hF) (cwV 1 hts wg_X9_item_X1_peek_27 rfl rfl rfl (by decide +kernel) ⟨Nat.le_of_ble_eq_true rfl, Nat.le_of_ble_eq_true rfl⟩) (va_recv hK hP (ci := 1) (q0 := 1) rfl (sm_gX1 σ α)) rfl rfl (Nat.le_of_ble_eq_true rfl) dX9_item_37 ⟨Nat.zero_le _, Nat.zero_le _⟩ (fun r5 σ4 H locs hF hP hS => ?_)
        refine sm_vi (As := [.long r5]) (rest := []) hP hK hD hE hS hA ⟨hx, hb, hml, hown, hts⟩ hl.1 (c_X9_target l D H.size t0 σ4 α r5 _ hF) (cwV 1 hts wg_X9_item_X9_target_41 rfl rfl rfl (by decide +kernel) ⟨Nat.le_of_ble_eq_true rfl, Nat.le_of_ble_eq_true rfl⟩) (va_recv hK hP (ci := 9) (q0 := 9) rfl (sm_gX9 σ4 α)) rfl rfl (Nat.le_of_ble_eq_true rfl) dX9_item_40 ⟨Nat.zero_le _, Nat.zero_le _⟩ (fun r7 σ6 H locs hF hP hS => ?_)
        refine lv_istore (lv' := [(5, .int r7), (0, .ref (α.1 9)), (2, .long x2), (6, .int x6), (7, .int x7)]) hx hb dX9_item_43 hl (by decide) rfl (fun ls hl => ?_)
        refine lv_iload hx hb dX9_item_45 (lv_at hl 0 rfl) ?_
        refine lv_if_ne (tgt := 65) hx hb dX9_item_47 (by decide) (fun h8 => ?_) (fun h8 => ?_)
        · replace hF := hF.1 h8
          refine lv_iload hx hb dX9_item_65 (lv_at hl 3 rfl) ?_
          refine lv_iload hx hb dX9_item_67 (lv_at hl 4 rfl) ?_
          obtain ⟨h11, hF⟩ := hF
          refine lv_irem hx hb dX9_item_69 h11 ?_
          refine lv_topi (fun v9 ev9 => ?_)
          replace hF := hF v9 ev9
          refine lv_istore (lv' := [(6, .int v9), (5, .int r7), (0, .ref (α.1 9)), (2, .long x2), (7, .int x7)]) hx hb dX9_item_70 hl (by decide) rfl (fun ls hl => ?_)
          refine lv_iload hx hb dX9_item_72 (lv_at hl 4 rfl) ?_
          refine lv_bipush (v := 15) hx hb dX9_item_74 (by decide) ?_
          refine lv_idiv hx hb dX9_item_76 (by decide) ?_
          refine lv_topi (fun v10 ev10 => ?_)
          replace hF := hF v10 ev10
          refine lv_istore (lv' := [(7, .int v10), (6, .int v9), (5, .int r7), (0, .ref (α.1 9)), (2, .long x2)]) hx hb dX9_item_77 hl (by decide) rfl (fun ls hl => ?_)
          refine lv_goto (tgt := 16) hx hb dX9_item_79 (by decide) ?_
          exact ih16 σ6 x2 r7 v9 v10 hF H locs ls hP hS (lv_sub hl [3, 4, 2, 1, 0] rfl)
        · replace hF := hF.2 h8
          refine lv_lload_n hx hb dX9_item_50 rfl (lv_at hl 2 rfl) ?_
          refine sm_si (As := [.long x2]) (rest := []) hP hK hD hE hS hA ⟨hx, hb, hml, hown, hts⟩ hl.1 (c_X1_rowItem l D H.size t0 σ6 α x2 _ hF) (va_cwS 1 hts wg_X9_item_X1_rowItem_87 rfl rfl rfl (by decide +kernel) ⟨Nat.le_of_ble_eq_true rfl, Nat.le_of_ble_eq_true rfl⟩) rfl rfl (Nat.le_of_ble_eq_true rfl) dX9_item_51 ⟨Nat.zero_le _, Nat.zero_le _⟩ (fun r13 σ12 H locs hF hP hS => ?_)
          refine lv_if_ne (tgt := 61) hx hb dX9_item_54 (by decide) (fun h14 => ?_) (fun h14 => ?_)
          · replace hF := hF.1 h14
            refine lv_ldc2 (v := 4294967296) hx hb hown k_1 dX9_item_61 ?_
            exact B64 (mp_X9_item_16 K n16) ih16 σ12 4294967296 hF H locs ls hP hS (lv_sub hl [] rfl)
          · replace hF := hF.2 h14
            refine lv_lconst (v := 0) hx hb dX9_item_57 (by decide) ?_
            refine lv_goto (tgt := 64) hx hb dX9_item_58 (by decide) ?_
            exact B64 (mp_X9_item_16 K n16) ih16 σ12 0 hF H locs ls hP hS (lv_sub hl [] rfl)
  unfold mp_X9_item at hF
  revert hP hS
  generalize hLo : ([] : List Loc) = locs
  suffices h9 : ∀ (H : Heap) (locs : List Loc), va_P D vwCl (sm_wX σ α) H → va_S A s.heap H locs → W p l e (headSpec wp_X9_item { frames := 2, cells := 0, slots := 0, locals := 46 }).room s m ([.ref (α.1 9), .int p1, .long p2, .int p3] : List Value).toArray below meth c H locs 0 0 (MQ below (va_Ql K (sm_B sm_wX D α) A) ([.ref (α.1 9), .int p1, .long p2, .int p3] : List Value).toArray s 0 0 A) (F0 m 0 ls []) from fun hP hS => h9 s.heap locs hP hS
  intro H locs hP hS
  refine lv_iload_n hx hb dX9_item_0 rfl (lv_at hl 1 rfl) ?_
  refine lv_istore (lv' := [(5, .int p1), (0, .ref (α.1 9)), (1, .int p1), (2, .long p2), (4, .int p3)]) hx hb dX9_item_1 hl (by decide) rfl (fun ls hl => ?_)
  refine lv_iload hx hb dX9_item_3 (lv_at hl 4 rfl) ?_
  refine lv_istore (lv' := [(6, .int p3), (5, .int p1), (0, .ref (α.1 9)), (1, .int p1), (2, .long p2), (4, .int p3)]) hx hb dX9_item_5 hl (by decide) rfl (fun ls hl => ?_)
  refine lv_lload_n hx hb dX9_item_7 rfl (lv_at hl 4 rfl) ?_
  refine sm_si (As := [.long p2]) (rest := []) hP hK hD hE hS hA ⟨hx, hb, hml, hown, hts⟩ hl.1 (c_X1_rowLength l D H.size t0 σ α p2 _ hF) (va_cwS 1 hts wg_X9_item_X1_rowLength_76 rfl rfl rfl (by decide +kernel) ⟨Nat.le_of_ble_eq_true rfl, Nat.le_of_ble_eq_true rfl⟩) rfl rfl (Nat.le_of_ble_eq_true rfl) dX9_item_8 ⟨Nat.zero_le _, Nat.zero_le _⟩ (fun r17 σ16 H locs hF hP hS => ?_)
  refine sm_si (As := [.int r17]) (rest := []) hP hK hD hE hS hA ⟨hx, hb, hml, hown, hts⟩ hl.1 (c_X1_span l D H.size t0 σ16 α r17 _ hF) (va_cwS 1 hts wg_X9_item_X1_span_83 rfl rfl rfl (by decide +kernel) ⟨Nat.le_of_ble_eq_true rfl, Nat.le_of_ble_eq_true rfl⟩) rfl rfl (Nat.le_of_ble_eq_true rfl) dX9_item_11 ⟨Nat.zero_le _, Nat.zero_le _⟩ (fun r19 σ18 H locs hF hP hS => ?_)
  refine lv_istore (lv' := [(7, .int r19), (6, .int p3), (5, .int p1), (0, .ref (α.1 9)), (1, .int p1), (2, .long p2), (4, .int p3)]) hx hb dX9_item_14 hl (by decide) rfl (fun ls hl => ?_)
  obtain ⟨n16, hF⟩ := hF
  exact B16 n16 σ18 p2 p1 p3 r19 hF H locs ls hP hS (lv_sub hl [3, 5, 2, 1, 0] rfl)
theorem dX9_part_0 : decode cX9_part 0 = .ok (.lload_n 1, 1) := by decide +kernel
theorem dX9_part_1 : decode cX9_part 1 = .ok (.invokestatic 33, 3) := by decide +kernel
theorem dX9_part_4 : decode cX9_part 4 = .ok (.iconst 1, 1) := by decide +kernel
theorem dX9_part_5 : decode cX9_part 5 = .ok (.if_icmp .ne 11, 3) := by decide +kernel
theorem dX9_part_8 : decode cX9_part 8 = .ok (.lload_n 1, 1) := by decide +kernel
theorem dX9_part_9 : decode cX9_part 9 = .ok (.ldc2_w 69, 3) := by decide +kernel
theorem dX9_part_12 : decode cX9_part 12 = .ok (.lcmp, 1) := by decide +kernel
theorem dX9_part_13 : decode cX9_part 13 = .ok (.ifCond .ne 7, 3) := by decide +kernel
theorem dX9_part_16 : decode cX9_part 16 = .ok (.ldc2_w 54, 3) := by decide +kernel
theorem dX9_part_19 : decode cX9_part 19 = .ok (.lreturn, 1) := by decide +kernel
theorem dX9_part_20 : decode cX9_part 20 = .ok (.aload_n 0, 1) := by decide +kernel
theorem dX9_part_21 : decode cX9_part 21 = .ok (.lload_n 1, 1) := by decide +kernel
theorem dX9_part_22 : decode cX9_part 22 = .ok (.invokevirtual 41, 3) := by decide +kernel
theorem dX9_part_25 : decode cX9_part 25 = .ok (.istore 4, 2) := by decide +kernel
theorem dX9_part_27 : decode cX9_part 27 = .ok (.aload_n 0, 1) := by decide +kernel
theorem dX9_part_28 : decode cX9_part 28 = .ok (.getfield 23, 3) := by decide +kernel
theorem dX9_part_31 : decode cX9_part 31 = .ok (.iload 4, 2) := by decide +kernel
theorem dX9_part_33 : decode cX9_part 33 = .ok (.invokevirtual 27, 3) := by decide +kernel
theorem dX9_part_36 : decode cX9_part 36 = .ok (.lstore 5, 2) := by decide +kernel
theorem dX9_part_38 : decode cX9_part 38 = .ok (.lload 5, 2) := by decide +kernel
theorem dX9_part_40 : decode cX9_part 40 = .ok (.invokestatic 33, 3) := by decide +kernel
theorem dX9_part_43 : decode cX9_part 43 = .ok (.iconst 2, 1) := by decide +kernel
theorem dX9_part_44 : decode cX9_part 44 = .ok (.if_icmp .ne 38, 3) := by decide +kernel
theorem dX9_part_47 : decode cX9_part 47 = .ok (.iload_n 3, 1) := by decide +kernel
theorem dX9_part_48 : decode cX9_part 48 = .ok (.aload_n 0, 1) := by decide +kernel
theorem dX9_part_49 : decode cX9_part 49 = .ok (.getfield 15, 3) := by decide +kernel
theorem dX9_part_52 : decode cX9_part 52 = .ok (.getfield 71, 3) := by decide +kernel
theorem dX9_part_55 : decode cX9_part 55 = .ok (.lload 5, 2) := by decide +kernel
theorem dX9_part_57 : decode cX9_part 57 = .ok (.l2i, 1) := by decide +kernel
theorem dX9_part_58 : decode cX9_part 58 = .ok (.iaload, 1) := by decide +kernel
theorem dX9_part_59 : decode cX9_part 59 = .ok (.if_icmp .ge 19, 3) := by decide +kernel
theorem dX9_part_62 : decode cX9_part 62 = .ok (.aload_n 0, 1) := by decide +kernel
theorem dX9_part_63 : decode cX9_part 63 = .ok (.getfield 23, 3) := by decide +kernel
theorem dX9_part_66 : decode cX9_part 66 = .ok (.iload 4, 2) := by decide +kernel
theorem dX9_part_68 : decode cX9_part 68 = .ok (.iconst 1, 1) := by decide +kernel
theorem dX9_part_69 : decode cX9_part 69 = .ok (.iadd, 1) := by decide +kernel
theorem dX9_part_70 : decode cX9_part 70 = .ok (.iload_n 3, 1) := by decide +kernel
theorem dX9_part_71 : decode cX9_part 71 = .ok (.iadd, 1) := by decide +kernel
theorem dX9_part_72 : decode cX9_part 72 = .ok (.invokevirtual 27, 3) := by decide +kernel
theorem dX9_part_75 : decode cX9_part 75 = .ok (.goto 6, 3) := by decide +kernel
theorem dX9_part_78 : decode cX9_part 78 = .ok (.ldc2_w 54, 3) := by decide +kernel
theorem dX9_part_81 : decode cX9_part 81 = .ok (.lreturn, 1) := by decide +kernel
theorem dX9_part_82 : decode cX9_part 82 = .ok (.iload_n 3, 1) := by decide +kernel
theorem dX9_part_83 : decode cX9_part 83 = .ok (.lload 5, 2) := by decide +kernel
theorem dX9_part_85 : decode cX9_part 85 = .ok (.invokestatic 76, 3) := by decide +kernel
theorem dX9_part_88 : decode cX9_part 88 = .ok (.if_icmp .ge 15, 3) := by decide +kernel
theorem dX9_part_91 : decode cX9_part 91 = .ok (.aload_n 0, 1) := by decide +kernel
theorem dX9_part_92 : decode cX9_part 92 = .ok (.iload 4, 2) := by decide +kernel
theorem dX9_part_94 : decode cX9_part 94 = .ok (.lload 5, 2) := by decide +kernel
theorem dX9_part_96 : decode cX9_part 96 = .ok (.iload_n 3, 1) := by decide +kernel
theorem dX9_part_97 : decode cX9_part 97 = .ok (.invokevirtual 79, 3) := by decide +kernel
theorem dX9_part_100 : decode cX9_part 100 = .ok (.goto 6, 3) := by decide +kernel
theorem dX9_part_103 : decode cX9_part 103 = .ok (.ldc2_w 54, 3) := by decide +kernel
theorem dX9_part_106 : decode cX9_part 106 = .ok (.lreturn, 1) := by decide +kernel
def wp_X9_part : List Cond := .code yX9_part cX9_part 7 (some .long) :: ((((((([.constantLong RX9 54 (-1), .constantLong RX9 69 (4294967296), .fieldLink RX9 23 "SteadyMachine$View" "heap" "LSteadyMachine$Heap;", .fieldLink RX9 15 "SteadyMachine$View" "classes" "LSteadyMachine$Classes;", .fieldLink RX9 71 "SteadyMachine$Classes" "fields" "[I"] ++ (va_wsS RX9 33 yX1_kind wp_X1_kind)) ++ (wsV RX9 41 RX9 yX9_target wp_X9_target)) ++ (wsV RX9 27 RX1 yX1_peek wp_X1_peek)) ++ (va_wsS RX9 76 yX1_rowLength wp_X1_rowLength)) ++ (wsV RX9 79 RX9 yX9_item wp_X9_item)) ++ wsX00) ++ wsX90)
theorem wq_X9_part : wp_X9_part.all goodWord = true := wa_c rfl (wa_a (wa_a (wa_a (wa_a (wa_a (wa_a (wa_a (by decide +kernel) (wa_S wq_X1_kind)) (wa_V wq_X9_target)) (wa_V wq_X1_peek)) (wa_S wq_X1_rowLength)) (wa_V wq_X9_item)) uq_X0) uq_X9)
theorem wt_X9_part : GoodIn lw_tbl wp_X9_part := wm_c (List.mem_of_getElem? (i := 1150) (by decide +kernel)) rfl (wm_a (wm_a (wm_a (wm_a (wm_a (wm_a (wm_a (goodIn_r _ [1136, 1151, 563, 561, 179] (by decide +kernel) (by decide +kernel)) (wm_a (goodIn_r _ [1122, 1029, 144] (by decide +kernel) (by decide +kernel)) wt_X1_kind)) (wm_a (goodIn_r _ [1118, 1120, 65, 146] (by decide +kernel) (by decide +kernel)) wt_X9_target)) (wm_a (goodIn_r _ [1114, 1115, 1116, 144] (by decide +kernel) (by decide +kernel)) wt_X1_peek)) (wm_a (goodIn_r _ [1152, 1047, 144] (by decide +kernel) (by decide +kernel)) wt_X1_rowLength)) (wm_a (goodIn_r _ [1153, 1155, 67, 146] (by decide +kernel) (by decide +kernel)) wt_X9_item)) ut_X0) ut_X9)
theorem wg_X9_part_X1_kind_33 : GoodIn wp_X9_part (va_wsS RX9 33 yX1_kind wp_X1_kind) := goodIn_sub (fun w h => List.mem_cons_of_mem _ (List.mem_append_left _ (List.mem_append_left _ (List.mem_append_left _ (List.mem_append_left _ (List.mem_append_left _ (List.mem_append_left _ (List.mem_append_right _ h)))))))) (wa_S wq_X1_kind)
theorem wg_X9_part_X9_target_41 : GoodIn wp_X9_part (wsV RX9 41 RX9 yX9_target wp_X9_target) := goodIn_sub (fun w h => List.mem_cons_of_mem _ (List.mem_append_left _ (List.mem_append_left _ (List.mem_append_left _ (List.mem_append_left _ (List.mem_append_left _ (List.mem_append_right _ h))))))) (wa_V wq_X9_target)
theorem wg_X9_part_X1_peek_27 : GoodIn wp_X9_part (wsV RX9 27 RX1 yX1_peek wp_X1_peek) := goodIn_sub (fun w h => List.mem_cons_of_mem _ (List.mem_append_left _ (List.mem_append_left _ (List.mem_append_left _ (List.mem_append_left _ (List.mem_append_right _ h)))))) (wa_V wq_X1_peek)
theorem wg_X9_part_X1_rowLength_76 : GoodIn wp_X9_part (va_wsS RX9 76 yX1_rowLength wp_X1_rowLength) := goodIn_sub (fun w h => List.mem_cons_of_mem _ (List.mem_append_left _ (List.mem_append_left _ (List.mem_append_left _ (List.mem_append_right _ h))))) (wa_S wq_X1_rowLength)
theorem wg_X9_part_X9_item_79 : GoodIn wp_X9_part (wsV RX9 79 RX9 yX9_item wp_X9_item) := goodIn_sub (fun w h => List.mem_cons_of_mem _ (List.mem_append_left _ (List.mem_append_left _ (List.mem_append_right _ h)))) (wa_V wq_X9_item)
theorem wi_X9_part_X0 : ∀ w ∈ wsX00, w ∈ wp_X9_part := fun w h => List.mem_cons_of_mem _ (List.mem_append_left _ (List.mem_append_right _ h))
theorem wi_X9_part_X9 : ∀ w ∈ wsX90, w ∈ wp_X9_part := fun w h => List.mem_cons_of_mem _ (List.mem_append_right _ h)
set_option maxHeartbeats 4000000 in
set_option maxRecDepth 100000 in
theorem c_X9_part (l : Launch) (D : va_G) (sz t0 : Nat) (σ : sm_S) (α : sm_A) (p1 : Int64) (p2 : Int32) (K : Int64 → sm_S → Prop) (hF : mp_X9_part σ p1 p2 K) : Met l yX9_part wp_X9_part { frames := 3, cells := 0, slots := 0, locals := 73 } (sm_P sm_wX sm_tX 37 D sz t0 σ α [.ref (α.1 9), .long p1, .int p2]) (va_Ql K (sm_B sm_wX D α) (sm_a α 37 sz)) 0 0 (sm_a α 37 sz) := by
  refine Met.ofW (cc := cX9_part) (maxL := 7) (ret := (some .long)) (by decide) rfl ?_
  intro p e s m args below meth c s₁ B hml hv
  obtain ⟨rfl, hsz, hP, hK, hD0, hE⟩ := hv
  have hx := B.exec
  have hb := B.bytes
  have hr := B.returns
  have hts := atoms_spec (ws := wp_X9_part) B.pre
  have hown : s.vm.findClass RX9 = some m.cls := findClass_of_methodNamed B.named
  have hlocks := B.notSynchronized
  subst hsz
  have hD : sm_D (sm_a α 37 s.heap.size) α 37 := hD0.own
  have hA : ∀ q : Nat, s.heap.size ≤ q → sm_a α 37 s.heap.size q := fun q h => Or.inr h
  generalize hAe : sm_a α 37 s.heap.size = A at hD hA hE ⊢
  have hS : va_S A s.heap s.heap [] := va_S.rf
  have in_X0 : ∀ w ∈ wsX00, w ∈ wp_X9_part := wi_X9_part_X0
  have in_X9 : ∀ w ∈ wsX90, w ∈ wp_X9_part := wi_X9_part_X9
  have k_0 := hts (.constantLong RX9 54 (-1)) (by decide +kernel)
  have k_1 := hts (.constantLong RX9 69 (4294967296)) (by decide +kernel)
  have k_2 := hts (.fieldLink RX9 23 "SteadyMachine$View" "heap" "LSteadyMachine$Heap;") (by decide +kernel)
  have k_3 := hts (.fieldLink RX9 15 "SteadyMachine$View" "classes" "LSteadyMachine$Classes;") (by decide +kernel)
  have k_4 := hts (.fieldLink RX9 71 "SteadyMachine$Classes" "fields" "[I") (by decide +kernel)
  have hl := lv_entry ([.ref (α.1 9), .long p1, .int p2]) (n := 7) (Nat.le_of_ble_eq_true rfl)
  rw [lg_entry_eq]
  generalize (lg_sl ([.ref (α.1 9), .long p1, .int p2]) ++ List.replicate (7 - (lg_sl ([.ref (α.1 9), .long p1, .int p2])).length) Slot.unset).toArray = ls at hl ⊢
  have hl : lv_has ls 7 [(0, .ref (α.1 9)), (1, .long p1), (3, .int p2)] := hl
  have B106 : ∀ (σ : sm_S) (y0 : Int64), mp_X9_part_106 K σ y0 → sm_J p l e (headSpec wp_X9_part { frames := 3, cells := 0, slots := 0, locals := 73 }).room s m ([.ref (α.1 9), .long p1, .int p2] : List Value).toArray below meth c (MQ below (va_Ql K (sm_B sm_wX D α) A) ([.ref (α.1 9), .long p1, .int p2] : List Value).toArray s 0 0 A) D A 7 (sm_wX σ α) 106 [] [.long y0] := by
    intro σ y0 hF H locs ls hP hS hl
    unfold mp_X9_part_106 at hF
    exact W.lret (v := y0) hx hb hr (fun t ht hW => ⟨⟨y0, σ, rfl, hF, (by unfold sm_B; rw [ht]; exact hP)⟩, hS.F ht⟩) hS.2.2 dX9_part_106
  have B81 : ∀ (σ : sm_S) (y0 : Int64), mp_X9_part_81 K σ y0 → sm_J p l e (headSpec wp_X9_part { frames := 3, cells := 0, slots := 0, locals := 73 }).room s m ([.ref (α.1 9), .long p1, .int p2] : List Value).toArray below meth c (MQ below (va_Ql K (sm_B sm_wX D α) A) ([.ref (α.1 9), .long p1, .int p2] : List Value).toArray s 0 0 A) D A 7 (sm_wX σ α) 81 [] [.long y0] := by
    intro σ y0 hF H locs ls hP hS hl
    unfold mp_X9_part_81 at hF
    exact W.lret (v := y0) hx hb hr (fun t ht hW => ⟨⟨y0, σ, rfl, hF, (by unfold sm_B; rw [ht]; exact hP)⟩, hS.F ht⟩) hS.2.2 dX9_part_81
  have B16 : ∀ (σ : sm_S), mp_X9_part_16 K σ → sm_J p l e (headSpec wp_X9_part { frames := 3, cells := 0, slots := 0, locals := 73 }).room s m ([.ref (α.1 9), .long p1, .int p2] : List Value).toArray below meth c (MQ below (va_Ql K (sm_B sm_wX D α) A) ([.ref (α.1 9), .long p1, .int p2] : List Value).toArray s 0 0 A) D A 7 (sm_wX σ α) 16 [] [] := by
    intro σ hF H locs ls hP hS hl
    unfold mp_X9_part_16 at hF
    refine lv_ldc2 (v := -1) hx hb hown k_0 dX9_part_16 ?_
    exact W.lret (v := (-1)) hx hb hr (fun t ht hW => ⟨⟨(-1), σ, rfl, hF, (by unfold sm_B; rw [ht]; exact hP)⟩, hS.F ht⟩) hS.2.2 dX9_part_19
  unfold mp_X9_part at hF
  revert hP hS
  generalize hLo : ([] : List Loc) = locs
  suffices h9 : ∀ (H : Heap) (locs : List Loc), va_P D vwCl (sm_wX σ α) H → va_S A s.heap H locs → W p l e (headSpec wp_X9_part { frames := 3, cells := 0, slots := 0, locals := 73 }).room s m ([.ref (α.1 9), .long p1, .int p2] : List Value).toArray below meth c H locs 0 0 (MQ below (va_Ql K (sm_B sm_wX D α) A) ([.ref (α.1 9), .long p1, .int p2] : List Value).toArray s 0 0 A) (F0 m 0 ls []) from fun hP hS => h9 s.heap locs hP hS
  intro H locs hP hS
  refine lv_lload_n hx hb dX9_part_0 rfl (lv_at hl 1 rfl) ?_
  refine sm_si (As := [.long p1]) (rest := []) hP hK hD hE hS hA ⟨hx, hb, hml, hown, hts⟩ hl.1 (c_X1_kind l D H.size t0 σ α p1 _ hF) (va_cwS 1 hts wg_X9_part_X1_kind_33 rfl rfl rfl (by decide +kernel) ⟨Nat.le_of_ble_eq_true rfl, Nat.le_of_ble_eq_true rfl⟩) rfl rfl (Nat.le_of_ble_eq_true rfl) dX9_part_1 ⟨Nat.zero_le _, Nat.zero_le _⟩ (fun r2 σ1 H locs hF hP hS => ?_)
  refine lv_iconst (v := 1) hx hb dX9_part_4 (by decide) ?_
  refine lv_icmp_ne (tgt := 16) hx hb dX9_part_5 (by decide) (fun h3 => ?_) (fun h3 => ?_)
  · replace hF := hF.1 h3
    exact B16 σ1 hF H locs ls hP hS (lv_sub hl [] rfl)
  · replace hF := hF.2 h3
    refine lv_lload_n hx hb dX9_part_8 rfl (lv_at hl 1 rfl) ?_
    refine lv_ldc2 (v := 4294967296) hx hb hown k_1 dX9_part_9 ?_
    refine W.lcmp hx hb dX9_part_12 ?_
    refine lv_if_ne (tgt := 20) hx hb dX9_part_13 (by decide) (fun h4 => ?_) (fun h4 => ?_)
    · replace hF := hF.1 h4
      refine lv_aload_n hx hb dX9_part_20 rfl (lv_at hl 0 rfl) ?_
      refine lv_lload_n hx hb dX9_part_21 rfl (lv_at hl 1 rfl) ?_
      refine sm_vi (As := [.long p1]) (rest := []) hP hK hD hE hS hA ⟨hx, hb, hml, hown, hts⟩ hl.1 (c_X9_target l D H.size t0 σ1 α p1 _ hF) (cwV 1 hts wg_X9_part_X9_target_41 rfl rfl rfl (by decide +kernel) ⟨Nat.le_of_ble_eq_true rfl, Nat.le_of_ble_eq_true rfl⟩) (va_recv hK hP (ci := 9) (q0 := 9) rfl (sm_gX9 σ1 α)) rfl rfl (Nat.le_of_ble_eq_true rfl) dX9_part_22 ⟨Nat.zero_le _, Nat.zero_le _⟩ (fun r6 σ5 H locs hF hP hS => ?_)
      refine lv_istore (lv' := [(4, .int r6), (0, .ref (α.1 9)), (1, .long p1), (3, .int p2)]) hx hb dX9_part_25 hl (by decide) rfl (fun ls hl => ?_)
      refine lv_aload_n hx hb dX9_part_27 rfl (lv_at hl 1 rfl) ?_
      refine va_get (D := D) (ci := 9) (v := .ref (α.1 1)) (C := RX9) (T := TX9) (N := 3) hx hb hts in_X9 hown hK hP 9 (sm_gX9 σ5 α) rfl 2 (by decide) k_2 (fun _ h9 => h9) rfl dX9_part_28 ?_
      refine lv_iload hx hb dX9_part_31 (lv_at hl 0 rfl) ?_
      refine sm_vl (As := [.int r6]) (rest := []) hP hK hD hE hS hA ⟨hx, hb, hml, hown, hts⟩ hl.1 (c_X1_peek l D H.size t0 σ5 α r6 _ hF) (cwV 1 hts wg_X9_part_X1_peek_27 rfl rfl rfl (by decide +kernel) ⟨Nat.le_of_ble_eq_true rfl, Nat.le_of_ble_eq_true rfl⟩) (va_recv hK hP (ci := 1) (q0 := 1) rfl (sm_gX1 σ5 α)) rfl rfl (Nat.le_of_ble_eq_true rfl) dX9_part_33 ⟨Nat.zero_le _, Nat.zero_le _⟩ (fun r8 σ7 H locs hF hP hS => ?_)
      refine lv_lstore (lv' := [(5, .long r8), (4, .int r6), (0, .ref (α.1 9)), (1, .long p1), (3, .int p2)]) hx hb dX9_part_36 hl (by decide) rfl (fun ls hl => ?_)
      refine lv_lload hx hb dX9_part_38 (lv_at hl 0 rfl) ?_
      refine sm_si (As := [.long r8]) (rest := []) hP hK hD hE hS hA ⟨hx, hb, hml, hown, hts⟩ hl.1 (c_X1_kind l D H.size t0 σ7 α r8 _ hF) (va_cwS 1 hts wg_X9_part_X1_kind_33 rfl rfl rfl (by decide +kernel) ⟨Nat.le_of_ble_eq_true rfl, Nat.le_of_ble_eq_true rfl⟩) rfl rfl (Nat.le_of_ble_eq_true rfl) dX9_part_40 ⟨Nat.zero_le _, Nat.zero_le _⟩ (fun r10 σ9 H locs hF hP hS => ?_)
      refine lv_iconst (v := 2) hx hb dX9_part_43 (by decide) ?_
      refine lv_icmp_ne (tgt := 82) hx hb dX9_part_44 (by decide) (fun h11 => ?_) (fun h11 => ?_)
      · replace hF := hF.1 h11
        refine lv_iload_n hx hb dX9_part_82 rfl (lv_at hl 4 rfl) ?_
        refine lv_lload hx hb dX9_part_83 (lv_at hl 0 rfl) ?_
        refine sm_si (As := [.long r8]) (rest := [.int p2]) hP hK hD hE hS hA ⟨hx, hb, hml, hown, hts⟩ hl.1 (c_X1_rowLength l D H.size t0 σ9 α r8 _ hF) (va_cwS 1 hts wg_X9_part_X1_rowLength_76 rfl rfl rfl (by decide +kernel) ⟨Nat.le_of_ble_eq_true rfl, Nat.le_of_ble_eq_true rfl⟩) rfl rfl (Nat.le_of_ble_eq_true rfl) dX9_part_85 ⟨Nat.zero_le _, Nat.zero_le _⟩ (fun r13 σ12 H locs hF hP hS => ?_)
        refine lv_icmp_ge (tgt := 103) hx hb dX9_part_88 (by decide) (fun h14 => ?_) (fun h14 => ?_)
        · replace hF := hF.1 h14
          refine lv_ldc2 (v := -1) hx hb hown k_0 dX9_part_103 ?_
          exact B106 σ12 (-1) hF H locs ls hP hS (lv_sub hl [] rfl)
        · replace hF := hF.2 h14
          refine lv_aload_n hx hb dX9_part_91 rfl (lv_at hl 2 rfl) ?_
          refine lv_iload hx hb dX9_part_92 (lv_at hl 1 rfl) ?_
          refine lv_lload hx hb dX9_part_94 (lv_at hl 0 rfl) ?_
          refine lv_iload_n hx hb dX9_part_96 rfl (lv_at hl 4 rfl) ?_
          refine sm_vl (As := [.int r6, .long r8, .int p2]) (rest := []) hP hK hD hE hS hA ⟨hx, hb, hml, hown, hts⟩ hl.1 (c_X9_item l D H.size t0 σ12 α r6 r8 p2 _ hF) (cwV 3 hts wg_X9_part_X9_item_79 rfl rfl rfl (by decide +kernel) ⟨Nat.le_of_ble_eq_true rfl, Nat.le_of_ble_eq_true rfl⟩) (va_recv hK hP (ci := 9) (q0 := 9) rfl (sm_gX9 σ12 α)) rfl rfl (Nat.le_of_ble_eq_true rfl) dX9_part_97 ⟨Nat.zero_le _, Nat.zero_le _⟩ (fun r16 σ15 H locs hF hP hS => ?_)
          refine lv_goto (tgt := 106) hx hb dX9_part_100 (by decide) ?_
          exact B106 σ15 r16 hF H locs ls hP hS (lv_sub hl [] rfl)
      · replace hF := hF.2 h11
        refine lv_iload_n hx hb dX9_part_47 rfl (lv_at hl 4 rfl) ?_
        refine lv_aload_n hx hb dX9_part_48 rfl (lv_at hl 2 rfl) ?_
        refine va_get (D := D) (ci := 9) (v := .ref (α.1 0)) (C := RX9) (T := TX9) (N := 3) hx hb hts in_X9 hown hK hP 9 (sm_gX9 σ9 α) rfl 0 (by decide) k_3 (fun _ h9 => h9) rfl dX9_part_49 ?_
        refine va_get (D := D) (ci := 0) (v := .ref (α.1 12)) (C := RX0) (T := TX0) (N := 7) hx hb hts in_X0 hown hK hP 0 (sm_gX0 σ9 α) rfl 2 (by decide) k_4 (fun _ h9 => h9) rfl dX9_part_52 ?_
        refine lv_lload hx hb dX9_part_55 (lv_at hl 0 rfl) ?_
        refine lv_l2i hx hb dX9_part_57 rfl ?_
        obtain ⟨h17, hF⟩ := hF
        refine va_iald (n := (σ9.2.2.1 12)) (f := (σ9.2.2.2.1 12)) hx hb hK hP 12 1 (sm_aX12 σ9 α) (sm_yX12 α) h17 dX9_part_58 ?_
        refine lv_icmp_ge (tgt := 78) hx hb dX9_part_59 (by decide) (fun h18 => ?_) (fun h18 => ?_)
        · replace hF := hF.1 h18
          refine lv_ldc2 (v := -1) hx hb hown k_0 dX9_part_78 ?_
          exact B81 σ9 (-1) hF H locs ls hP hS (lv_sub hl [] rfl)
        · replace hF := hF.2 h18
          refine lv_aload_n hx hb dX9_part_62 rfl (lv_at hl 2 rfl) ?_
          refine va_get (D := D) (ci := 9) (v := .ref (α.1 1)) (C := RX9) (T := TX9) (N := 3) hx hb hts in_X9 hown hK hP 9 (sm_gX9 σ9 α) rfl 2 (by decide) k_2 (fun _ h9 => h9) rfl dX9_part_63 ?_
          refine lv_iload hx hb dX9_part_66 (lv_at hl 1 rfl) ?_
          refine lv_iconst (v := 1) hx hb dX9_part_68 (by decide) ?_
          refine lv_iadd hx hb dX9_part_69 ?_
          refine lv_iload_n hx hb dX9_part_70 rfl (lv_at hl 4 rfl) ?_
          refine lv_iadd hx hb dX9_part_71 ?_
          refine sm_vl (As := [.int ((r6 + 1) + p2)]) (rest := []) hP hK hD hE hS hA ⟨hx, hb, hml, hown, hts⟩ hl.1 (c_X1_peek l D H.size t0 σ9 α ((r6 + 1) + p2) _ hF) (cwV 1 hts wg_X9_part_X1_peek_27 rfl rfl rfl (by decide +kernel) ⟨Nat.le_of_ble_eq_true rfl, Nat.le_of_ble_eq_true rfl⟩) (va_recv hK hP (ci := 1) (q0 := 1) rfl (sm_gX1 σ9 α)) rfl rfl (Nat.le_of_ble_eq_true rfl) dX9_part_72 ⟨Nat.zero_le _, Nat.zero_le _⟩ (fun r20 σ19 H locs hF hP hS => ?_)
          refine lv_goto (tgt := 81) hx hb dX9_part_75 (by decide) ?_
          exact B81 σ19 r20 hF H locs ls hP hS (lv_sub hl [] rfl)
    · replace hF := hF.2 h4
      exact B16 σ1 hF H locs ls hP hS (lv_sub hl [] rfl)
theorem dX9_along_0 : decode cX9_along 0 = .ok (.lload_n 1, 1) := by decide +kernel
theorem dX9_along_1 : decode cX9_along 1 = .ok (.lstore 5, 2) := by decide +kernel
theorem dX9_along_3 : decode cX9_along 3 = .ok (.lload_n 3, 1) := by decide +kernel
theorem dX9_along_4 : decode cX9_along 4 = .ok (.lstore 7, 2) := by decide +kernel
theorem dX9_along_6 : decode cX9_along 6 = .ok (.iconst 0, 1) := by decide +kernel
theorem dX9_along_7 : decode cX9_along 7 = .ok (.istore 9, 2) := by decide +kernel
theorem dX9_along_9 : decode cX9_along 9 = .ok (.iload 9, 2) := by decide +kernel
theorem dX9_along_11 : decode cX9_along 11 = .ok (.bipush 6, 2) := by decide +kernel
theorem dX9_along_13 : decode cX9_along 13 = .ok (.if_icmp .ge 52, 3) := by decide +kernel
theorem dX9_along_16 : decode cX9_along 16 = .ok (.lload 7, 2) := by decide +kernel
theorem dX9_along_18 : decode cX9_along 18 = .ok (.lconst 0, 1) := by decide +kernel
theorem dX9_along_19 : decode cX9_along 19 = .ok (.lcmp, 1) := by decide +kernel
theorem dX9_along_20 : decode cX9_along 20 = .ok (.ifCond .eq 45, 3) := by decide +kernel
theorem dX9_along_23 : decode cX9_along 23 = .ok (.lload 7, 2) := by decide +kernel
theorem dX9_along_25 : decode cX9_along 25 = .ok (.ldc2_w 63, 3) := by decide +kernel
theorem dX9_along_28 : decode cX9_along 28 = .ok (.land, 1) := by decide +kernel
theorem dX9_along_29 : decode cX9_along 29 = .ok (.l2i, 1) := by decide +kernel
theorem dX9_along_30 : decode cX9_along 30 = .ok (.istore 10, 2) := by decide +kernel
theorem dX9_along_32 : decode cX9_along 32 = .ok (.iload 10, 2) := by decide +kernel
theorem dX9_along_34 : decode cX9_along 34 = .ok (.ifCond .ne 6, 3) := by decide +kernel
theorem dX9_along_37 : decode cX9_along 37 = .ok (.lload 5, 2) := by decide +kernel
theorem dX9_along_39 : decode cX9_along 39 = .ok (.lreturn, 1) := by decide +kernel
theorem dX9_along_40 : decode cX9_along 40 = .ok (.aload_n 0, 1) := by decide +kernel
theorem dX9_along_41 : decode cX9_along 41 = .ok (.lload 5, 2) := by decide +kernel
theorem dX9_along_43 : decode cX9_along 43 = .ok (.iload 10, 2) := by decide +kernel
theorem dX9_along_45 : decode cX9_along 45 = .ok (.iconst 1, 1) := by decide +kernel
theorem dX9_along_46 : decode cX9_along 46 = .ok (.isub, 1) := by decide +kernel
theorem dX9_along_47 : decode cX9_along 47 = .ok (.invokevirtual 65, 3) := by decide +kernel
theorem dX9_along_50 : decode cX9_along 50 = .ok (.lstore 5, 2) := by decide +kernel
theorem dX9_along_52 : decode cX9_along 52 = .ok (.lload 7, 2) := by decide +kernel
theorem dX9_along_54 : decode cX9_along 54 = .ok (.bipush 12, 2) := by decide +kernel
theorem dX9_along_56 : decode cX9_along 56 = .ok (.lushr, 1) := by decide +kernel
theorem dX9_along_57 : decode cX9_along 57 = .ok (.lstore 7, 2) := by decide +kernel
theorem dX9_along_59 : decode cX9_along 59 = .ok (.iinc 9 1, 3) := by decide +kernel
theorem dX9_along_62 : decode cX9_along 62 = .ok (.goto (-53), 3) := by decide +kernel
theorem dX9_along_65 : decode cX9_along 65 = .ok (.lload 5, 2) := by decide +kernel
theorem dX9_along_67 : decode cX9_along 67 = .ok (.lreturn, 1) := by decide +kernel
def wp_X9_along : List Cond := .code yX9_along cX9_along 11 (some .long) :: ([.constantLong RX9 63 (4095)] ++ (wsV RX9 65 RX9 yX9_part wp_X9_part))
theorem wq_X9_along : wp_X9_along.all goodWord = true := wa_c rfl (wa_a (by decide +kernel) (wa_V wq_X9_part))
theorem wt_X9_along : GoodIn lw_tbl wp_X9_along := wm_c (List.mem_of_getElem? (i := 1145) (by decide +kernel)) rfl (wm_a (goodIn_r _ [1146] (by decide +kernel) (by decide +kernel)) (wm_a (goodIn_r _ [1147, 1149, 66, 146] (by decide +kernel) (by decide +kernel)) wt_X9_part))
theorem wg_X9_along_X9_part_65 : GoodIn wp_X9_along (wsV RX9 65 RX9 yX9_part wp_X9_part) := goodIn_sub (fun w h => List.mem_cons_of_mem _ (List.mem_append_right _ h)) (wa_V wq_X9_part)
set_option maxHeartbeats 4000000 in
set_option maxRecDepth 100000 in
theorem c_X9_along (l : Launch) (D : va_G) (sz t0 : Nat) (σ : sm_S) (α : sm_A) (p1 : Int64) (p2 : Int64) (K : Int64 → sm_S → Prop) (hF : mp_X9_along σ p1 p2 K) : Met l yX9_along wp_X9_along { frames := 4, cells := 0, slots := 0, locals := 99 } (sm_P sm_wX sm_tX 37 D sz t0 σ α [.ref (α.1 9), .long p1, .long p2]) (va_Ql K (sm_B sm_wX D α) (sm_a α 37 sz)) 0 0 (sm_a α 37 sz) := by
  refine Met.ofW (cc := cX9_along) (maxL := 11) (ret := (some .long)) (by decide) rfl ?_
  intro p e s m args below meth c s₁ B hml hv
  obtain ⟨rfl, hsz, hP, hK, hD0, hE⟩ := hv
  have hx := B.exec
  have hb := B.bytes
  have hr := B.returns
  have hts := atoms_spec (ws := wp_X9_along) B.pre
  have hown : s.vm.findClass RX9 = some m.cls := findClass_of_methodNamed B.named
  have hlocks := B.notSynchronized
  subst hsz
  have hD : sm_D (sm_a α 37 s.heap.size) α 37 := hD0.own
  have hA : ∀ q : Nat, s.heap.size ≤ q → sm_a α 37 s.heap.size q := fun q h => Or.inr h
  generalize hAe : sm_a α 37 s.heap.size = A at hD hA hE ⊢
  have hS : va_S A s.heap s.heap [] := va_S.rf
  have k_0 := hts (.constantLong RX9 63 (4095)) (by decide +kernel)
  have hl := lv_entry ([.ref (α.1 9), .long p1, .long p2]) (n := 11) (Nat.le_of_ble_eq_true rfl)
  rw [lg_entry_eq]
  generalize (lg_sl ([.ref (α.1 9), .long p1, .long p2]) ++ List.replicate (11 - (lg_sl ([.ref (α.1 9), .long p1, .long p2])).length) Slot.unset).toArray = ls at hl ⊢
  have hl : lv_has ls 11 [(0, .ref (α.1 9)), (1, .long p1), (3, .long p2)] := hl
  have B65 : ∀ (σ : sm_S) (x5 : Int64), mp_X9_along_65 K σ x5 → sm_J p l e (headSpec wp_X9_along { frames := 4, cells := 0, slots := 0, locals := 99 }).room s m ([.ref (α.1 9), .long p1, .long p2] : List Value).toArray below meth c (MQ below (va_Ql K (sm_B sm_wX D α) A) ([.ref (α.1 9), .long p1, .long p2] : List Value).toArray s 0 0 A) D A 11 (sm_wX σ α) 65 [(5, .long x5)] [] := by
    intro σ x5 hF H locs ls hP hS hl
    unfold mp_X9_along_65 at hF
    refine lv_lload hx hb dX9_along_65 (lv_at hl 0 rfl) ?_
    exact W.lret (v := x5) hx hb hr (fun t ht hW => ⟨⟨x5, σ, rfl, hF, (by unfold sm_B; rw [ht]; exact hP)⟩, hS.F ht⟩) hS.2.2 dX9_along_67
  have B9 : ∀ (n : Nat) (σ : sm_S) (x5 : Int64) (x7 : Int64) (x9 : Int32), mp_X9_along_9 K n σ x5 x7 x9 → sm_J p l e (headSpec wp_X9_along { frames := 4, cells := 0, slots := 0, locals := 99 }).room s m ([.ref (α.1 9), .long p1, .long p2] : List Value).toArray below meth c (MQ below (va_Ql K (sm_B sm_wX D α) A) ([.ref (α.1 9), .long p1, .long p2] : List Value).toArray s 0 0 A) D A 11 (sm_wX σ α) 9 [(0, .ref (α.1 9)), (5, .long x5), (7, .long x7), (9, .int x9)] [] := by
    intro n9
    induction n9 with
    | zero =>
      intro σ x5 x7 x9 hF
      exact hF.elim
    | succ n9 ih9 =>
      intro σ x5 x7 x9 hF H locs ls hP hS hl
      unfold mp_X9_along_9 at hF
      refine lv_iload hx hb dX9_along_9 (lv_at hl 3 rfl) ?_
      refine lv_bipush (v := 6) hx hb dX9_along_11 (by decide) ?_
      refine lv_icmp_ge (tgt := 65) hx hb dX9_along_13 (by decide) (fun h1 => ?_) (fun h1 => ?_)
      · replace hF := hF.1 h1
        exact B65 σ x5 hF H locs ls hP hS (lv_sub hl [1] rfl)
      · replace hF := hF.2 h1
        refine lv_lload hx hb dX9_along_16 (lv_at hl 2 rfl) ?_
        refine lv_lconst (v := 0) hx hb dX9_along_18 (by decide) ?_
        refine W.lcmp hx hb dX9_along_19 ?_
        refine lv_if_eq (tgt := 65) hx hb dX9_along_20 (by decide) (fun h2 => ?_) (fun h2 => ?_)
        · replace hF := hF.1 h2
          exact B65 σ x5 hF H locs ls hP hS (lv_sub hl [1] rfl)
        · replace hF := hF.2 h2
          refine lv_lload hx hb dX9_along_23 (lv_at hl 2 rfl) ?_
          refine lv_ldc2 (v := 4095) hx hb hown k_0 dX9_along_25 ?_
          refine lv_land hx hb dX9_along_28 ?_
          refine lv_l2i hx hb dX9_along_29 rfl ?_
          refine lv_topi (fun v3 ev3 => ?_)
          replace hF := hF v3 ev3
          refine lv_istore (lv' := [(10, .int v3), (0, .ref (α.1 9)), (5, .long x5), (7, .long x7), (9, .int x9)]) hx hb dX9_along_30 hl (by decide) rfl (fun ls hl => ?_)
          refine lv_iload hx hb dX9_along_32 (lv_at hl 0 rfl) ?_
          refine lv_if_ne (tgt := 40) hx hb dX9_along_34 (by decide) (fun h4 => ?_) (fun h4 => ?_)
          · replace hF := hF.1 h4
            refine lv_aload_n hx hb dX9_along_40 rfl (lv_at hl 1 rfl) ?_
            refine lv_lload hx hb dX9_along_41 (lv_at hl 2 rfl) ?_
            refine lv_iload hx hb dX9_along_43 (lv_at hl 0 rfl) ?_
            refine lv_iconst (v := 1) hx hb dX9_along_45 (by decide) ?_
            refine lv_isub hx hb dX9_along_46 ?_
            refine sm_vl (As := [.long x5, .int (v3 - 1)]) (rest := []) hP hK hD hE hS hA ⟨hx, hb, hml, hown, hts⟩ hl.1 (c_X9_part l D H.size t0 σ α x5 (v3 - 1) _ hF) (cwV 2 hts wg_X9_along_X9_part_65 rfl rfl rfl (by decide +kernel) ⟨Nat.le_of_ble_eq_true rfl, Nat.le_of_ble_eq_true rfl⟩) (va_recv hK hP (ci := 9) (q0 := 9) rfl (sm_gX9 σ α)) rfl rfl (Nat.le_of_ble_eq_true rfl) dX9_along_47 ⟨Nat.zero_le _, Nat.zero_le _⟩ (fun r6 σ5 H locs hF hP hS => ?_)
            refine lv_lstore (lv' := [(5, .long r6), (10, .int v3), (0, .ref (α.1 9)), (7, .long x7), (9, .int x9)]) hx hb dX9_along_50 hl (by decide) rfl (fun ls hl => ?_)
            refine lv_lload hx hb dX9_along_52 (lv_at hl 3 rfl) ?_
            refine lv_bipush (v := 12) hx hb dX9_along_54 (by decide) ?_
            refine lv_lushr hx hb dX9_along_56 rfl ?_
            refine lv_topl (fun v7 ev7 => ?_)
            replace hF := hF v7 ev7
            refine lv_lstore (lv' := [(7, .long v7), (5, .long r6), (10, .int v3), (0, .ref (α.1 9)), (9, .int x9)]) hx hb dX9_along_57 hl (by decide) rfl (fun ls hl => ?_)
            obtain ⟨v8, ev8⟩ : ∃ y : Int32, y = x9 + 1 := ⟨_, rfl⟩
            replace hF := hF v8 ev8
            refine lv_iinc (v := v8) (lv' := [(9, .int v8), (7, .long v7), (5, .long r6), (10, .int v3), (0, .ref (α.1 9))]) hx hb dX9_along_59 hl (k := 4) rfl (by rw [ev8]; rfl) (by decide) rfl (fun ls hl => ?_)
            refine lv_goto (tgt := 9) hx hb dX9_along_62 (by decide) ?_
            exact ih9 σ5 r6 v7 v8 hF H locs ls hP hS (lv_sub hl [4, 2, 1, 0] rfl)
          · replace hF := hF.2 h4
            refine lv_lload hx hb dX9_along_37 (lv_at hl 2 rfl) ?_
            exact W.lret (v := x5) hx hb hr (fun t ht hW => ⟨⟨x5, σ, rfl, hF, (by unfold sm_B; rw [ht]; exact hP)⟩, hS.F ht⟩) hS.2.2 dX9_along_39
  unfold mp_X9_along at hF
  revert hP hS
  generalize hLo : ([] : List Loc) = locs
  suffices h9 : ∀ (H : Heap) (locs : List Loc), va_P D vwCl (sm_wX σ α) H → va_S A s.heap H locs → W p l e (headSpec wp_X9_along { frames := 4, cells := 0, slots := 0, locals := 99 }).room s m ([.ref (α.1 9), .long p1, .long p2] : List Value).toArray below meth c H locs 0 0 (MQ below (va_Ql K (sm_B sm_wX D α) A) ([.ref (α.1 9), .long p1, .long p2] : List Value).toArray s 0 0 A) (F0 m 0 ls []) from fun hP hS => h9 s.heap locs hP hS
  intro H locs hP hS
  refine lv_lload_n hx hb dX9_along_0 rfl (lv_at hl 1 rfl) ?_
  refine lv_lstore (lv' := [(5, .long p1), (0, .ref (α.1 9)), (1, .long p1), (3, .long p2)]) hx hb dX9_along_1 hl (by decide) rfl (fun ls hl => ?_)
  refine lv_lload_n hx hb dX9_along_3 rfl (lv_at hl 3 rfl) ?_
  refine lv_lstore (lv' := [(7, .long p2), (5, .long p1), (0, .ref (α.1 9)), (1, .long p1), (3, .long p2)]) hx hb dX9_along_4 hl (by decide) rfl (fun ls hl => ?_)
  refine lv_iconst (v := 0) hx hb dX9_along_6 (by decide) ?_
  refine lv_istore (lv' := [(9, .int 0), (7, .long p2), (5, .long p1), (0, .ref (α.1 9)), (1, .long p1), (3, .long p2)]) hx hb dX9_along_7 hl (by decide) rfl (fun ls hl => ?_)
  obtain ⟨n9, hF⟩ := hF
  exact B9 n9 σ p1 p2 0 hF H locs ls hP hS (lv_sub hl [3, 2, 1, 0] rfl)
theorem dX9_ask_0 : decode cX9_ask 0 = .ok (.lload_n 1, 1) := by decide +kernel
theorem dX9_ask_1 : decode cX9_ask 1 = .ok (.ldc2_w 54, 3) := by decide +kernel
theorem dX9_ask_4 : decode cX9_ask 4 = .ok (.lcmp, 1) := by decide +kernel
theorem dX9_ask_5 : decode cX9_ask 5 = .ok (.ifCond .ne 7, 3) := by decide +kernel
theorem dX9_ask_8 : decode cX9_ask 8 = .ok (.ldc2_w 54, 3) := by decide +kernel
theorem dX9_ask_11 : decode cX9_ask 11 = .ok (.lreturn, 1) := by decide +kernel
theorem dX9_ask_12 : decode cX9_ask 12 = .ok (.lload_n 1, 1) := by decide +kernel
theorem dX9_ask_13 : decode cX9_ask 13 = .ok (.invokestatic 33, 3) := by decide +kernel
theorem dX9_ask_16 : decode cX9_ask 16 = .ok (.ifCond .ne 16, 3) := by decide +kernel
theorem dX9_ask_19 : decode cX9_ask 19 = .ok (.iload_n 3, 1) := by decide +kernel
theorem dX9_ask_20 : decode cX9_ask 20 = .ok (.iconst 1, 1) := by decide +kernel
theorem dX9_ask_21 : decode cX9_ask 21 = .ok (.if_icmp .ne 9, 3) := by decide +kernel
theorem dX9_ask_24 : decode cX9_ask 24 = .ok (.lload_n 1, 1) := by decide +kernel
theorem dX9_ask_25 : decode cX9_ask 25 = .ok (.l2i, 1) := by decide +kernel
theorem dX9_ask_26 : decode cX9_ask 26 = .ok (.i2l, 1) := by decide +kernel
theorem dX9_ask_27 : decode cX9_ask 27 = .ok (.goto 4, 3) := by decide +kernel
theorem dX9_ask_30 : decode cX9_ask 30 = .ok (.lconst 0, 1) := by decide +kernel
theorem dX9_ask_31 : decode cX9_ask 31 = .ok (.lreturn, 1) := by decide +kernel
theorem dX9_ask_32 : decode cX9_ask 32 = .ok (.lload_n 1, 1) := by decide +kernel
theorem dX9_ask_33 : decode cX9_ask 33 = .ok (.ldc2_w 69, 3) := by decide +kernel
theorem dX9_ask_36 : decode cX9_ask 36 = .ok (.lcmp, 1) := by decide +kernel
theorem dX9_ask_37 : decode cX9_ask 37 = .ok (.ifCond .ne 13, 3) := by decide +kernel
theorem dX9_ask_40 : decode cX9_ask 40 = .ok (.iload_n 3, 1) := by decide +kernel
theorem dX9_ask_41 : decode cX9_ask 41 = .ok (.ifCond .ne 7, 3) := by decide +kernel
theorem dX9_ask_44 : decode cX9_ask 44 = .ok (.lconst 1, 1) := by decide +kernel
theorem dX9_ask_45 : decode cX9_ask 45 = .ok (.goto 4, 3) := by decide +kernel
theorem dX9_ask_48 : decode cX9_ask 48 = .ok (.lconst 0, 1) := by decide +kernel
theorem dX9_ask_49 : decode cX9_ask 49 = .ok (.lreturn, 1) := by decide +kernel
theorem dX9_ask_50 : decode cX9_ask 50 = .ok (.aload_n 0, 1) := by decide +kernel
theorem dX9_ask_51 : decode cX9_ask 51 = .ok (.getfield 23, 3) := by decide +kernel
theorem dX9_ask_54 : decode cX9_ask 54 = .ok (.aload_n 0, 1) := by decide +kernel
theorem dX9_ask_55 : decode cX9_ask 55 = .ok (.lload_n 1, 1) := by decide +kernel
theorem dX9_ask_56 : decode cX9_ask 56 = .ok (.invokevirtual 41, 3) := by decide +kernel
theorem dX9_ask_59 : decode cX9_ask 59 = .ok (.invokevirtual 27, 3) := by decide +kernel
theorem dX9_ask_62 : decode cX9_ask 62 = .ok (.lstore 4, 2) := by decide +kernel
theorem dX9_ask_64 : decode cX9_ask 64 = .ok (.lload 4, 2) := by decide +kernel
theorem dX9_ask_66 : decode cX9_ask 66 = .ok (.invokestatic 33, 3) := by decide +kernel
theorem dX9_ask_69 : decode cX9_ask 69 = .ok (.iconst 2, 1) := by decide +kernel
theorem dX9_ask_70 : decode cX9_ask 70 = .ok (.if_icmp .ne 38, 3) := by decide +kernel
theorem dX9_ask_73 : decode cX9_ask 73 = .ok (.iload_n 3, 1) := by decide +kernel
theorem dX9_ask_74 : decode cX9_ask 74 = .ok (.ifCond .ne 9, 3) := by decide +kernel
theorem dX9_ask_77 : decode cX9_ask 77 = .ok (.ldc2_w 90, 3) := by decide +kernel
theorem dX9_ask_80 : decode cX9_ask 80 = .ok (.goto 27, 3) := by decide +kernel
theorem dX9_ask_83 : decode cX9_ask 83 = .ok (.iload_n 3, 1) := by decide +kernel
theorem dX9_ask_84 : decode cX9_ask 84 = .ok (.iconst 1, 1) := by decide +kernel
theorem dX9_ask_85 : decode cX9_ask 85 = .ok (.if_icmp .ne 10, 3) := by decide +kernel
theorem dX9_ask_88 : decode cX9_ask 88 = .ok (.lload 4, 2) := by decide +kernel
theorem dX9_ask_90 : decode cX9_ask 90 = .ok (.l2i, 1) := by decide +kernel
theorem dX9_ask_91 : decode cX9_ask 91 = .ok (.i2l, 1) := by decide +kernel
theorem dX9_ask_92 : decode cX9_ask 92 = .ok (.goto 15, 3) := by decide +kernel
theorem dX9_ask_95 : decode cX9_ask 95 = .ok (.aload_n 0, 1) := by decide +kernel
theorem dX9_ask_96 : decode cX9_ask 96 = .ok (.getfield 15, 3) := by decide +kernel
theorem dX9_ask_99 : decode cX9_ask 99 = .ok (.getfield 71, 3) := by decide +kernel
theorem dX9_ask_102 : decode cX9_ask 102 = .ok (.lload 4, 2) := by decide +kernel
theorem dX9_ask_104 : decode cX9_ask 104 = .ok (.l2i, 1) := by decide +kernel
theorem dX9_ask_105 : decode cX9_ask 105 = .ok (.iaload, 1) := by decide +kernel
theorem dX9_ask_106 : decode cX9_ask 106 = .ok (.i2l, 1) := by decide +kernel
theorem dX9_ask_107 : decode cX9_ask 107 = .ok (.lreturn, 1) := by decide +kernel
theorem dX9_ask_108 : decode cX9_ask 108 = .ok (.lload 4, 2) := by decide +kernel
theorem dX9_ask_110 : decode cX9_ask 110 = .ok (.invokestatic 87, 3) := by decide +kernel
theorem dX9_ask_113 : decode cX9_ask 113 = .ok (.ifCond .ne 7, 3) := by decide +kernel
theorem dX9_ask_116 : decode cX9_ask 116 = .ok (.iconst 3, 1) := by decide +kernel
theorem dX9_ask_117 : decode cX9_ask 117 = .ok (.goto 4, 3) := by decide +kernel
theorem dX9_ask_120 : decode cX9_ask 120 = .ok (.iconst 4, 1) := by decide +kernel
theorem dX9_ask_121 : decode cX9_ask 121 = .ok (.istore 6, 2) := by decide +kernel
theorem dX9_ask_123 : decode cX9_ask 123 = .ok (.iload_n 3, 1) := by decide +kernel
theorem dX9_ask_124 : decode cX9_ask 124 = .ok (.ifCond .ne 9, 3) := by decide +kernel
theorem dX9_ask_127 : decode cX9_ask 127 = .ok (.iload 6, 2) := by decide +kernel
theorem dX9_ask_129 : decode cX9_ask 129 = .ok (.i2l, 1) := by decide +kernel
theorem dX9_ask_130 : decode cX9_ask 130 = .ok (.goto 18, 3) := by decide +kernel
theorem dX9_ask_133 : decode cX9_ask 133 = .ok (.iload_n 3, 1) := by decide +kernel
theorem dX9_ask_134 : decode cX9_ask 134 = .ok (.iconst 1, 1) := by decide +kernel
theorem dX9_ask_135 : decode cX9_ask 135 = .ok (.if_icmp .ne 12, 3) := by decide +kernel
theorem dX9_ask_138 : decode cX9_ask 138 = .ok (.lload 4, 2) := by decide +kernel
theorem dX9_ask_140 : decode cX9_ask 140 = .ok (.invokestatic 76, 3) := by decide +kernel
theorem dX9_ask_143 : decode cX9_ask 143 = .ok (.i2l, 1) := by decide +kernel
theorem dX9_ask_144 : decode cX9_ask 144 = .ok (.goto 4, 3) := by decide +kernel
theorem dX9_ask_147 : decode cX9_ask 147 = .ok (.lconst 0, 1) := by decide +kernel
theorem dX9_ask_148 : decode cX9_ask 148 = .ok (.lreturn, 1) := by decide +kernel
def wp_X9_ask : List Cond := .code yX9_ask cX9_ask 7 (some .long) :: ((((((([.constantLong RX9 54 (-1), .constantLong RX9 69 (4294967296), .fieldLink RX9 23 "SteadyMachine$View" "heap" "LSteadyMachine$Heap;", .fieldLink RX9 15 "SteadyMachine$View" "classes" "LSteadyMachine$Classes;", .fieldLink RX9 71 "SteadyMachine$Classes" "fields" "[I", .constantLong RX9 90 (2)] ++ (va_wsS RX9 76 yX1_rowLength wp_X1_rowLength)) ++ (va_wsS RX9 33 yX1_kind wp_X1_kind)) ++ (wsV RX9 41 RX9 yX9_target wp_X9_target)) ++ (wsV RX9 27 RX1 yX1_peek wp_X1_peek)) ++ (va_wsS RX9 87 yX1_rowItem wp_X1_rowItem)) ++ wsX00) ++ wsX90)
theorem wq_X9_ask : wp_X9_ask.all goodWord = true := wa_c rfl (wa_a (wa_a (wa_a (wa_a (wa_a (wa_a (wa_a (by decide +kernel) (wa_S wq_X1_rowLength)) (wa_S wq_X1_kind)) (wa_V wq_X9_target)) (wa_V wq_X1_peek)) (wa_S wq_X1_rowItem)) uq_X0) uq_X9)
theorem wt_X9_ask : GoodIn lw_tbl wp_X9_ask := wm_c (List.mem_of_getElem? (i := 1162) (by decide +kernel)) rfl (wm_a (wm_a (wm_a (wm_a (wm_a (wm_a (wm_a (goodIn_r _ [1136, 1151, 563, 561, 179, 1163] (by decide +kernel) (by decide +kernel)) (wm_a (goodIn_r _ [1152, 1047, 144] (by decide +kernel) (by decide +kernel)) wt_X1_rowLength)) (wm_a (goodIn_r _ [1122, 1029, 144] (by decide +kernel) (by decide +kernel)) wt_X1_kind)) (wm_a (goodIn_r _ [1118, 1120, 65, 146] (by decide +kernel) (by decide +kernel)) wt_X9_target)) (wm_a (goodIn_r _ [1114, 1115, 1116, 144] (by decide +kernel) (by decide +kernel)) wt_X1_peek)) (wm_a (goodIn_r _ [1158, 1058, 144] (by decide +kernel) (by decide +kernel)) wt_X1_rowItem)) ut_X0) ut_X9)
theorem wg_X9_ask_X1_rowLength_76 : GoodIn wp_X9_ask (va_wsS RX9 76 yX1_rowLength wp_X1_rowLength) := goodIn_sub (fun w h => List.mem_cons_of_mem _ (List.mem_append_left _ (List.mem_append_left _ (List.mem_append_left _ (List.mem_append_left _ (List.mem_append_left _ (List.mem_append_left _ (List.mem_append_right _ h)))))))) (wa_S wq_X1_rowLength)
theorem wg_X9_ask_X1_kind_33 : GoodIn wp_X9_ask (va_wsS RX9 33 yX1_kind wp_X1_kind) := goodIn_sub (fun w h => List.mem_cons_of_mem _ (List.mem_append_left _ (List.mem_append_left _ (List.mem_append_left _ (List.mem_append_left _ (List.mem_append_left _ (List.mem_append_right _ h))))))) (wa_S wq_X1_kind)
theorem wg_X9_ask_X9_target_41 : GoodIn wp_X9_ask (wsV RX9 41 RX9 yX9_target wp_X9_target) := goodIn_sub (fun w h => List.mem_cons_of_mem _ (List.mem_append_left _ (List.mem_append_left _ (List.mem_append_left _ (List.mem_append_left _ (List.mem_append_right _ h)))))) (wa_V wq_X9_target)
theorem wg_X9_ask_X1_peek_27 : GoodIn wp_X9_ask (wsV RX9 27 RX1 yX1_peek wp_X1_peek) := goodIn_sub (fun w h => List.mem_cons_of_mem _ (List.mem_append_left _ (List.mem_append_left _ (List.mem_append_left _ (List.mem_append_right _ h))))) (wa_V wq_X1_peek)
theorem wg_X9_ask_X1_rowItem_87 : GoodIn wp_X9_ask (va_wsS RX9 87 yX1_rowItem wp_X1_rowItem) := goodIn_sub (fun w h => List.mem_cons_of_mem _ (List.mem_append_left _ (List.mem_append_left _ (List.mem_append_right _ h)))) (wa_S wq_X1_rowItem)
theorem wi_X9_ask_X0 : ∀ w ∈ wsX00, w ∈ wp_X9_ask := fun w h => List.mem_cons_of_mem _ (List.mem_append_left _ (List.mem_append_right _ h))
theorem wi_X9_ask_X9 : ∀ w ∈ wsX90, w ∈ wp_X9_ask := fun w h => List.mem_cons_of_mem _ (List.mem_append_right _ h)
set_option maxHeartbeats 4000000 in
set_option maxRecDepth 100000 in
theorem c_X9_ask (l : Launch) (D : va_G) (sz t0 : Nat) (σ : sm_S) (α : sm_A) (p1 : Int64) (p2 : Int32) (K : Int64 → sm_S → Prop) (hF : mp_X9_ask σ p1 p2 K) : Met l yX9_ask wp_X9_ask { frames := 2, cells := 0, slots := 0, locals := 46 } (sm_P sm_wX sm_tX 37 D sz t0 σ α [.ref (α.1 9), .long p1, .int p2]) (va_Ql K (sm_B sm_wX D α) (sm_a α 37 sz)) 0 0 (sm_a α 37 sz) := by
  refine Met.ofW (cc := cX9_ask) (maxL := 7) (ret := (some .long)) (by decide) rfl ?_
  intro p e s m args below meth c s₁ B hml hv
  obtain ⟨rfl, hsz, hP, hK, hD0, hE⟩ := hv
  have hx := B.exec
  have hb := B.bytes
  have hr := B.returns
  have hts := atoms_spec (ws := wp_X9_ask) B.pre
  have hown : s.vm.findClass RX9 = some m.cls := findClass_of_methodNamed B.named
  have hlocks := B.notSynchronized
  subst hsz
  have hD : sm_D (sm_a α 37 s.heap.size) α 37 := hD0.own
  have hA : ∀ q : Nat, s.heap.size ≤ q → sm_a α 37 s.heap.size q := fun q h => Or.inr h
  generalize hAe : sm_a α 37 s.heap.size = A at hD hA hE ⊢
  have hS : va_S A s.heap s.heap [] := va_S.rf
  have in_X0 : ∀ w ∈ wsX00, w ∈ wp_X9_ask := wi_X9_ask_X0
  have in_X9 : ∀ w ∈ wsX90, w ∈ wp_X9_ask := wi_X9_ask_X9
  have k_0 := hts (.constantLong RX9 54 (-1)) (by decide +kernel)
  have k_1 := hts (.constantLong RX9 69 (4294967296)) (by decide +kernel)
  have k_2 := hts (.fieldLink RX9 23 "SteadyMachine$View" "heap" "LSteadyMachine$Heap;") (by decide +kernel)
  have k_3 := hts (.fieldLink RX9 15 "SteadyMachine$View" "classes" "LSteadyMachine$Classes;") (by decide +kernel)
  have k_4 := hts (.fieldLink RX9 71 "SteadyMachine$Classes" "fields" "[I") (by decide +kernel)
  have k_5 := hts (.constantLong RX9 90 (2)) (by decide +kernel)
  have hl := lv_entry ([.ref (α.1 9), .long p1, .int p2]) (n := 7) (Nat.le_of_ble_eq_true rfl)
  rw [lg_entry_eq]
  generalize (lg_sl ([.ref (α.1 9), .long p1, .int p2]) ++ List.replicate (7 - (lg_sl ([.ref (α.1 9), .long p1, .int p2])).length) Slot.unset).toArray = ls at hl ⊢
  have hl : lv_has ls 7 [(0, .ref (α.1 9)), (1, .long p1), (3, .int p2)] := hl
  have B148 : ∀ (σ : sm_S) (y0 : Int64), mp_X9_ask_148 K σ y0 → sm_J p l e (headSpec wp_X9_ask { frames := 2, cells := 0, slots := 0, locals := 46 }).room s m ([.ref (α.1 9), .long p1, .int p2] : List Value).toArray below meth c (MQ below (va_Ql K (sm_B sm_wX D α) A) ([.ref (α.1 9), .long p1, .int p2] : List Value).toArray s 0 0 A) D A 7 (sm_wX σ α) 148 [] [.long y0] := by
    intro σ y0 hF H locs ls hP hS hl
    unfold mp_X9_ask_148 at hF
    exact W.lret (v := y0) hx hb hr (fun t ht hW => ⟨⟨y0, σ, rfl, hF, (by unfold sm_B; rw [ht]; exact hP)⟩, hS.F ht⟩) hS.2.2 dX9_ask_148
  have B121 : ∀ (σ : sm_S) (x3 : Int32) (x4 : Int64) (y0 : Int32), mp_X9_ask_121 K σ x3 x4 y0 → sm_J p l e (headSpec wp_X9_ask { frames := 2, cells := 0, slots := 0, locals := 46 }).room s m ([.ref (α.1 9), .long p1, .int p2] : List Value).toArray below meth c (MQ below (va_Ql K (sm_B sm_wX D α) A) ([.ref (α.1 9), .long p1, .int p2] : List Value).toArray s 0 0 A) D A 7 (sm_wX σ α) 121 [(3, .int x3), (4, .long x4)] [.int y0] := by
    intro σ x3 x4 y0 hF H locs ls hP hS hl
    unfold mp_X9_ask_121 at hF
    refine lv_istore (lv' := [(6, .int y0), (3, .int x3), (4, .long x4)]) hx hb dX9_ask_121 hl (by decide) rfl (fun ls hl => ?_)
    refine lv_iload_n hx hb dX9_ask_123 rfl (lv_at hl 1 rfl) ?_
    refine lv_if_ne (tgt := 133) hx hb dX9_ask_124 (by decide) (fun h1 => ?_) (fun h1 => ?_)
    · replace hF := hF.1 h1
      refine lv_iload_n hx hb dX9_ask_133 rfl (lv_at hl 1 rfl) ?_
      refine lv_iconst (v := 1) hx hb dX9_ask_134 (by decide) ?_
      refine lv_icmp_ne (tgt := 147) hx hb dX9_ask_135 (by decide) (fun h2 => ?_) (fun h2 => ?_)
      · replace hF := hF.1 h2
        refine lv_lconst (v := 0) hx hb dX9_ask_147 (by decide) ?_
        exact B148 σ 0 hF H locs ls hP hS (lv_sub hl [] rfl)
      · replace hF := hF.2 h2
        refine lv_lload hx hb dX9_ask_138 (lv_at hl 2 rfl) ?_
        refine sm_si (As := [.long x4]) (rest := []) hP hK hD hE hS hA ⟨hx, hb, hml, hown, hts⟩ hl.1 (c_X1_rowLength l D H.size t0 σ α x4 _ hF) (va_cwS 1 hts wg_X9_ask_X1_rowLength_76 rfl rfl rfl (by decide +kernel) ⟨Nat.le_of_ble_eq_true rfl, Nat.le_of_ble_eq_true rfl⟩) rfl rfl (Nat.le_of_ble_eq_true rfl) dX9_ask_140 ⟨Nat.zero_le _, Nat.zero_le _⟩ (fun r4 σ3 H locs hF hP hS => ?_)
        refine lv_i2l hx hb dX9_ask_143 rfl ?_
        refine lv_goto (tgt := 148) hx hb dX9_ask_144 (by decide) ?_
        exact B148 σ3 r4.toInt64 hF H locs ls hP hS (lv_sub hl [] rfl)
    · replace hF := hF.2 h1
      refine lv_iload hx hb dX9_ask_127 (lv_at hl 0 rfl) ?_
      refine lv_i2l hx hb dX9_ask_129 rfl ?_
      refine lv_goto (tgt := 148) hx hb dX9_ask_130 (by decide) ?_
      exact B148 σ y0.toInt64 hF H locs ls hP hS (lv_sub hl [] rfl)
  have B107 : ∀ (σ : sm_S) (y0 : Int64), mp_X9_ask_107 K σ y0 → sm_J p l e (headSpec wp_X9_ask { frames := 2, cells := 0, slots := 0, locals := 46 }).room s m ([.ref (α.1 9), .long p1, .int p2] : List Value).toArray below meth c (MQ below (va_Ql K (sm_B sm_wX D α) A) ([.ref (α.1 9), .long p1, .int p2] : List Value).toArray s 0 0 A) D A 7 (sm_wX σ α) 107 [] [.long y0] := by
    intro σ y0 hF H locs ls hP hS hl
    unfold mp_X9_ask_107 at hF
    exact W.lret (v := y0) hx hb hr (fun t ht hW => ⟨⟨y0, σ, rfl, hF, (by unfold sm_B; rw [ht]; exact hP)⟩, hS.F ht⟩) hS.2.2 dX9_ask_107
  have B49 : ∀ (σ : sm_S) (y0 : Int64), mp_X9_ask_49 K σ y0 → sm_J p l e (headSpec wp_X9_ask { frames := 2, cells := 0, slots := 0, locals := 46 }).room s m ([.ref (α.1 9), .long p1, .int p2] : List Value).toArray below meth c (MQ below (va_Ql K (sm_B sm_wX D α) A) ([.ref (α.1 9), .long p1, .int p2] : List Value).toArray s 0 0 A) D A 7 (sm_wX σ α) 49 [] [.long y0] := by
    intro σ y0 hF H locs ls hP hS hl
    unfold mp_X9_ask_49 at hF
    exact W.lret (v := y0) hx hb hr (fun t ht hW => ⟨⟨y0, σ, rfl, hF, (by unfold sm_B; rw [ht]; exact hP)⟩, hS.F ht⟩) hS.2.2 dX9_ask_49
  have B31 : ∀ (σ : sm_S) (y0 : Int64), mp_X9_ask_31 K σ y0 → sm_J p l e (headSpec wp_X9_ask { frames := 2, cells := 0, slots := 0, locals := 46 }).room s m ([.ref (α.1 9), .long p1, .int p2] : List Value).toArray below meth c (MQ below (va_Ql K (sm_B sm_wX D α) A) ([.ref (α.1 9), .long p1, .int p2] : List Value).toArray s 0 0 A) D A 7 (sm_wX σ α) 31 [] [.long y0] := by
    intro σ y0 hF H locs ls hP hS hl
    unfold mp_X9_ask_31 at hF
    exact W.lret (v := y0) hx hb hr (fun t ht hW => ⟨⟨y0, σ, rfl, hF, (by unfold sm_B; rw [ht]; exact hP)⟩, hS.F ht⟩) hS.2.2 dX9_ask_31
  unfold mp_X9_ask at hF
  revert hP hS
  generalize hLo : ([] : List Loc) = locs
  suffices h9 : ∀ (H : Heap) (locs : List Loc), va_P D vwCl (sm_wX σ α) H → va_S A s.heap H locs → W p l e (headSpec wp_X9_ask { frames := 2, cells := 0, slots := 0, locals := 46 }).room s m ([.ref (α.1 9), .long p1, .int p2] : List Value).toArray below meth c H locs 0 0 (MQ below (va_Ql K (sm_B sm_wX D α) A) ([.ref (α.1 9), .long p1, .int p2] : List Value).toArray s 0 0 A) (F0 m 0 ls []) from fun hP hS => h9 s.heap locs hP hS
  intro H locs hP hS
  refine lv_lload_n hx hb dX9_ask_0 rfl (lv_at hl 1 rfl) ?_
  refine lv_ldc2 (v := -1) hx hb hown k_0 dX9_ask_1 ?_
  refine W.lcmp hx hb dX9_ask_4 ?_
  refine lv_if_ne (tgt := 12) hx hb dX9_ask_5 (by decide) (fun h5 => ?_) (fun h5 => ?_)
  · replace hF := hF.1 h5
    refine lv_lload_n hx hb dX9_ask_12 rfl (lv_at hl 1 rfl) ?_
    refine sm_si (As := [.long p1]) (rest := []) hP hK hD hE hS hA ⟨hx, hb, hml, hown, hts⟩ hl.1 (c_X1_kind l D H.size t0 σ α p1 _ hF) (va_cwS 1 hts wg_X9_ask_X1_kind_33 rfl rfl rfl (by decide +kernel) ⟨Nat.le_of_ble_eq_true rfl, Nat.le_of_ble_eq_true rfl⟩) rfl rfl (Nat.le_of_ble_eq_true rfl) dX9_ask_13 ⟨Nat.zero_le _, Nat.zero_le _⟩ (fun r7 σ6 H locs hF hP hS => ?_)
    refine lv_if_ne (tgt := 32) hx hb dX9_ask_16 (by decide) (fun h8 => ?_) (fun h8 => ?_)
    · replace hF := hF.1 h8
      refine lv_lload_n hx hb dX9_ask_32 rfl (lv_at hl 1 rfl) ?_
      refine lv_ldc2 (v := 4294967296) hx hb hown k_1 dX9_ask_33 ?_
      refine W.lcmp hx hb dX9_ask_36 ?_
      refine lv_if_ne (tgt := 50) hx hb dX9_ask_37 (by decide) (fun h9 => ?_) (fun h9 => ?_)
      · replace hF := hF.1 h9
        refine lv_aload_n hx hb dX9_ask_50 rfl (lv_at hl 0 rfl) ?_
        refine va_get (D := D) (ci := 9) (v := .ref (α.1 1)) (C := RX9) (T := TX9) (N := 3) hx hb hts in_X9 hown hK hP 9 (sm_gX9 σ6 α) rfl 2 (by decide) k_2 (fun _ h9 => h9) rfl dX9_ask_51 ?_
        refine lv_aload_n hx hb dX9_ask_54 rfl (lv_at hl 0 rfl) ?_
        refine lv_lload_n hx hb dX9_ask_55 rfl (lv_at hl 1 rfl) ?_
        refine sm_vi (As := [.long p1]) (rest := [.ref (α.1 1)]) hP hK hD hE hS hA ⟨hx, hb, hml, hown, hts⟩ hl.1 (c_X9_target l D H.size t0 σ6 α p1 _ hF) (cwV 1 hts wg_X9_ask_X9_target_41 rfl rfl rfl (by decide +kernel) ⟨Nat.le_of_ble_eq_true rfl, Nat.le_of_ble_eq_true rfl⟩) (va_recv hK hP (ci := 9) (q0 := 9) rfl (sm_gX9 σ6 α)) rfl rfl (Nat.le_of_ble_eq_true rfl) dX9_ask_56 ⟨Nat.zero_le _, Nat.zero_le _⟩ (fun r11 σ10 H locs hF hP hS => ?_)
        refine sm_vl (As := [.int r11]) (rest := []) hP hK hD hE hS hA ⟨hx, hb, hml, hown, hts⟩ hl.1 (c_X1_peek l D H.size t0 σ10 α r11 _ hF) (cwV 1 hts wg_X9_ask_X1_peek_27 rfl rfl rfl (by decide +kernel) ⟨Nat.le_of_ble_eq_true rfl, Nat.le_of_ble_eq_true rfl⟩) (va_recv hK hP (ci := 1) (q0 := 1) rfl (sm_gX1 σ10 α)) rfl rfl (Nat.le_of_ble_eq_true rfl) dX9_ask_59 ⟨Nat.zero_le _, Nat.zero_le _⟩ (fun r13 σ12 H locs hF hP hS => ?_)
        refine lv_lstore (lv' := [(4, .long r13), (0, .ref (α.1 9)), (1, .long p1), (3, .int p2)]) hx hb dX9_ask_62 hl (by decide) rfl (fun ls hl => ?_)
        refine lv_lload hx hb dX9_ask_64 (lv_at hl 0 rfl) ?_
        refine sm_si (As := [.long r13]) (rest := []) hP hK hD hE hS hA ⟨hx, hb, hml, hown, hts⟩ hl.1 (c_X1_kind l D H.size t0 σ12 α r13 _ hF) (va_cwS 1 hts wg_X9_ask_X1_kind_33 rfl rfl rfl (by decide +kernel) ⟨Nat.le_of_ble_eq_true rfl, Nat.le_of_ble_eq_true rfl⟩) rfl rfl (Nat.le_of_ble_eq_true rfl) dX9_ask_66 ⟨Nat.zero_le _, Nat.zero_le _⟩ (fun r15 σ14 H locs hF hP hS => ?_)
        refine lv_iconst (v := 2) hx hb dX9_ask_69 (by decide) ?_
        refine lv_icmp_ne (tgt := 108) hx hb dX9_ask_70 (by decide) (fun h16 => ?_) (fun h16 => ?_)
        · replace hF := hF.1 h16
          refine lv_lload hx hb dX9_ask_108 (lv_at hl 0 rfl) ?_
          refine sm_si (As := [.long r13]) (rest := []) hP hK hD hE hS hA ⟨hx, hb, hml, hown, hts⟩ hl.1 (c_X1_rowItem l D H.size t0 σ14 α r13 _ hF) (va_cwS 1 hts wg_X9_ask_X1_rowItem_87 rfl rfl rfl (by decide +kernel) ⟨Nat.le_of_ble_eq_true rfl, Nat.le_of_ble_eq_true rfl⟩) rfl rfl (Nat.le_of_ble_eq_true rfl) dX9_ask_110 ⟨Nat.zero_le _, Nat.zero_le _⟩ (fun r18 σ17 H locs hF hP hS => ?_)
          refine lv_if_ne (tgt := 120) hx hb dX9_ask_113 (by decide) (fun h19 => ?_) (fun h19 => ?_)
          · replace hF := hF.1 h19
            refine lv_iconst (v := 4) hx hb dX9_ask_120 (by decide) ?_
            exact B121 σ17 p2 r13 4 hF H locs ls hP hS (lv_sub hl [3, 0] rfl)
          · replace hF := hF.2 h19
            refine lv_iconst (v := 3) hx hb dX9_ask_116 (by decide) ?_
            refine lv_goto (tgt := 121) hx hb dX9_ask_117 (by decide) ?_
            exact B121 σ17 p2 r13 3 hF H locs ls hP hS (lv_sub hl [3, 0] rfl)
        · replace hF := hF.2 h16
          refine lv_iload_n hx hb dX9_ask_73 rfl (lv_at hl 3 rfl) ?_
          refine lv_if_ne (tgt := 83) hx hb dX9_ask_74 (by decide) (fun h20 => ?_) (fun h20 => ?_)
          · replace hF := hF.1 h20
            refine lv_iload_n hx hb dX9_ask_83 rfl (lv_at hl 3 rfl) ?_
            refine lv_iconst (v := 1) hx hb dX9_ask_84 (by decide) ?_
            refine lv_icmp_ne (tgt := 95) hx hb dX9_ask_85 (by decide) (fun h21 => ?_) (fun h21 => ?_)
            · replace hF := hF.1 h21
              refine lv_aload_n hx hb dX9_ask_95 rfl (lv_at hl 1 rfl) ?_
              refine va_get (D := D) (ci := 9) (v := .ref (α.1 0)) (C := RX9) (T := TX9) (N := 3) hx hb hts in_X9 hown hK hP 9 (sm_gX9 σ14 α) rfl 0 (by decide) k_3 (fun _ h9 => h9) rfl dX9_ask_96 ?_
              refine va_get (D := D) (ci := 0) (v := .ref (α.1 12)) (C := RX0) (T := TX0) (N := 7) hx hb hts in_X0 hown hK hP 0 (sm_gX0 σ14 α) rfl 2 (by decide) k_4 (fun _ h9 => h9) rfl dX9_ask_99 ?_
              refine lv_lload hx hb dX9_ask_102 (lv_at hl 0 rfl) ?_
              refine lv_l2i hx hb dX9_ask_104 rfl ?_
              obtain ⟨h22, hF⟩ := hF
              refine va_iald (n := (σ14.2.2.1 12)) (f := (σ14.2.2.2.1 12)) hx hb hK hP 12 1 (sm_aX12 σ14 α) (sm_yX12 α) h22 dX9_ask_105 ?_
              refine lv_i2l hx hb dX9_ask_106 rfl ?_
              exact B107 σ14 (((σ14.2.2.2.1 12) r13.toInt32.toNatClampNeg).toInt64) hF H locs ls hP hS (lv_sub hl [] rfl)
            · replace hF := hF.2 h21
              refine lv_lload hx hb dX9_ask_88 (lv_at hl 0 rfl) ?_
              refine lv_l2i hx hb dX9_ask_90 rfl ?_
              refine lv_i2l hx hb dX9_ask_91 rfl ?_
              refine lv_goto (tgt := 107) hx hb dX9_ask_92 (by decide) ?_
              exact B107 σ14 r13.toInt32.toInt64 hF H locs ls hP hS (lv_sub hl [] rfl)
          · replace hF := hF.2 h20
            refine lv_ldc2 (v := 2) hx hb hown k_5 dX9_ask_77 ?_
            refine lv_goto (tgt := 107) hx hb dX9_ask_80 (by decide) ?_
            exact B107 σ14 2 hF H locs ls hP hS (lv_sub hl [] rfl)
      · replace hF := hF.2 h9
        refine lv_iload_n hx hb dX9_ask_40 rfl (lv_at hl 2 rfl) ?_
        refine lv_if_ne (tgt := 48) hx hb dX9_ask_41 (by decide) (fun h23 => ?_) (fun h23 => ?_)
        · replace hF := hF.1 h23
          refine lv_lconst (v := 0) hx hb dX9_ask_48 (by decide) ?_
          exact B49 σ6 0 hF H locs ls hP hS (lv_sub hl [] rfl)
        · replace hF := hF.2 h23
          refine lv_lconst (v := 1) hx hb dX9_ask_44 (by decide) ?_
          refine lv_goto (tgt := 49) hx hb dX9_ask_45 (by decide) ?_
          exact B49 σ6 1 hF H locs ls hP hS (lv_sub hl [] rfl)
    · replace hF := hF.2 h8
      refine lv_iload_n hx hb dX9_ask_19 rfl (lv_at hl 2 rfl) ?_
      refine lv_iconst (v := 1) hx hb dX9_ask_20 (by decide) ?_
      refine lv_icmp_ne (tgt := 30) hx hb dX9_ask_21 (by decide) (fun h24 => ?_) (fun h24 => ?_)
      · replace hF := hF.1 h24
        refine lv_lconst (v := 0) hx hb dX9_ask_30 (by decide) ?_
        exact B31 σ6 0 hF H locs ls hP hS (lv_sub hl [] rfl)
      · replace hF := hF.2 h24
        refine lv_lload_n hx hb dX9_ask_24 rfl (lv_at hl 1 rfl) ?_
        refine lv_l2i hx hb dX9_ask_25 rfl ?_
        refine lv_i2l hx hb dX9_ask_26 rfl ?_
        refine lv_goto (tgt := 31) hx hb dX9_ask_27 (by decide) ?_
        exact B31 σ6 p1.toInt32.toInt64 hF H locs ls hP hS (lv_sub hl [] rfl)
  · replace hF := hF.2 h5
    refine lv_ldc2 (v := -1) hx hb hown k_0 dX9_ask_8 ?_
    exact W.lret (v := (-1)) hx hb hr (fun t ht hW => ⟨⟨(-1), σ, rfl, hF, (by unfold sm_B; rw [ht]; exact hP)⟩, hS.F ht⟩) hS.2.2 dX9_ask_11
theorem dX9_alike_0 : decode cX9_alike 0 = .ok (.lload_n 1, 1) := by decide +kernel
theorem dX9_alike_1 : decode cX9_alike 1 = .ok (.invokestatic 33, 3) := by decide +kernel
theorem dX9_alike_4 : decode cX9_alike 4 = .ok (.iconst 1, 1) := by decide +kernel
theorem dX9_alike_5 : decode cX9_alike 5 = .ok (.if_icmp .ne 15, 3) := by decide +kernel
theorem dX9_alike_8 : decode cX9_alike 8 = .ok (.lload_n 3, 1) := by decide +kernel
theorem dX9_alike_9 : decode cX9_alike 9 = .ok (.invokestatic 33, 3) := by decide +kernel
theorem dX9_alike_12 : decode cX9_alike 12 = .ok (.iconst 1, 1) := by decide +kernel
theorem dX9_alike_13 : decode cX9_alike 13 = .ok (.if_icmp .ne 7, 3) := by decide +kernel
theorem dX9_alike_16 : decode cX9_alike 16 = .ok (.iconst 1, 1) := by decide +kernel
theorem dX9_alike_17 : decode cX9_alike 17 = .ok (.goto 4, 3) := by decide +kernel
theorem dX9_alike_20 : decode cX9_alike 20 = .ok (.iconst 0, 1) := by decide +kernel
theorem dX9_alike_21 : decode cX9_alike 21 = .ok (.istore 5, 2) := by decide +kernel
theorem dX9_alike_23 : decode cX9_alike 23 = .ok (.iload 5, 2) := by decide +kernel
theorem dX9_alike_25 : decode cX9_alike 25 = .ok (.ifCond .eq 20, 3) := by decide +kernel
theorem dX9_alike_28 : decode cX9_alike 28 = .ok (.aload_n 0, 1) := by decide +kernel
theorem dX9_alike_29 : decode cX9_alike 29 = .ok (.lload_n 1, 1) := by decide +kernel
theorem dX9_alike_30 : decode cX9_alike 30 = .ok (.invokevirtual 41, 3) := by decide +kernel
theorem dX9_alike_33 : decode cX9_alike 33 = .ok (.aload_n 0, 1) := by decide +kernel
theorem dX9_alike_34 : decode cX9_alike 34 = .ok (.lload_n 3, 1) := by decide +kernel
theorem dX9_alike_35 : decode cX9_alike 35 = .ok (.invokevirtual 41, 3) := by decide +kernel
theorem dX9_alike_38 : decode cX9_alike 38 = .ok (.if_icmp .ne 7, 3) := by decide +kernel
theorem dX9_alike_41 : decode cX9_alike 41 = .ok (.iconst 1, 1) := by decide +kernel
theorem dX9_alike_42 : decode cX9_alike 42 = .ok (.goto 4, 3) := by decide +kernel
theorem dX9_alike_45 : decode cX9_alike 45 = .ok (.iconst 0, 1) := by decide +kernel
theorem dX9_alike_46 : decode cX9_alike 46 = .ok (.ireturn, 1) := by decide +kernel
def wp_X9_alike : List Cond := .code yX9_alike cX9_alike 6 (some .boolean) :: (([] ++ (wsV RX9 41 RX9 yX9_target wp_X9_target)) ++ (va_wsS RX9 33 yX1_kind wp_X1_kind))
theorem wq_X9_alike : wp_X9_alike.all goodWord = true := wa_c rfl (wa_a (wa_a (by decide +kernel) (wa_V wq_X9_target)) (wa_S wq_X1_kind))
theorem wt_X9_alike : GoodIn lw_tbl wp_X9_alike := wm_c (List.mem_of_getElem? (i := 1171) (by decide +kernel)) rfl (wm_a (wm_a (goodIn_r _ [] (by decide +kernel) (by decide +kernel)) (wm_a (goodIn_r _ [1118, 1120, 65, 146] (by decide +kernel) (by decide +kernel)) wt_X9_target)) (wm_a (goodIn_r _ [1122, 1029, 144] (by decide +kernel) (by decide +kernel)) wt_X1_kind))
theorem wg_X9_alike_X9_target_41 : GoodIn wp_X9_alike (wsV RX9 41 RX9 yX9_target wp_X9_target) := goodIn_sub (fun w h => List.mem_cons_of_mem _ (List.mem_append_left _ (List.mem_append_right _ h))) (wa_V wq_X9_target)
theorem wg_X9_alike_X1_kind_33 : GoodIn wp_X9_alike (va_wsS RX9 33 yX1_kind wp_X1_kind) := goodIn_sub (fun w h => List.mem_cons_of_mem _ (List.mem_append_right _ h)) (wa_S wq_X1_kind)
set_option maxHeartbeats 4000000 in
set_option maxRecDepth 100000 in
theorem c_X9_alike (l : Launch) (D : va_G) (sz t0 : Nat) (σ : sm_S) (α : sm_A) (p1 : Int64) (p2 : Int64) (K : Int32 → sm_S → Prop) (hF : mp_X9_alike σ p1 p2 K) : Met l yX9_alike wp_X9_alike { frames := 2, cells := 0, slots := 0, locals := 46 } (sm_P sm_wX sm_tX 37 D sz t0 σ α [.ref (α.1 9), .long p1, .long p2]) (va_Qi K (sm_B sm_wX D α) (sm_a α 37 sz)) 0 0 (sm_a α 37 sz) := by
  refine Met.ofW (cc := cX9_alike) (maxL := 6) (ret := (some .boolean)) (by decide) rfl ?_
  intro p e s m args below meth c s₁ B hml hv
  obtain ⟨rfl, hsz, hP, hK, hD0, hE⟩ := hv
  have hx := B.exec
  have hb := B.bytes
  have hr := B.returns
  have hts := atoms_spec (ws := wp_X9_alike) B.pre
  have hown : s.vm.findClass RX9 = some m.cls := findClass_of_methodNamed B.named
  have hlocks := B.notSynchronized
  subst hsz
  have hD : sm_D (sm_a α 37 s.heap.size) α 37 := hD0.own
  have hA : ∀ q : Nat, s.heap.size ≤ q → sm_a α 37 s.heap.size q := fun q h => Or.inr h
  generalize hAe : sm_a α 37 s.heap.size = A at hD hA hE ⊢
  have hS : va_S A s.heap s.heap [] := va_S.rf
  have hl := lv_entry ([.ref (α.1 9), .long p1, .long p2]) (n := 6) (Nat.le_of_ble_eq_true rfl)
  rw [lg_entry_eq]
  generalize (lg_sl ([.ref (α.1 9), .long p1, .long p2]) ++ List.replicate (6 - (lg_sl ([.ref (α.1 9), .long p1, .long p2])).length) Slot.unset).toArray = ls at hl ⊢
  have hl : lv_has ls 6 [(0, .ref (α.1 9)), (1, .long p1), (3, .long p2)] := hl
  have B46 : ∀ (σ : sm_S) (y0 : Int32), mp_X9_alike_46 K σ y0 → sm_J p l e (headSpec wp_X9_alike { frames := 2, cells := 0, slots := 0, locals := 46 }).room s m ([.ref (α.1 9), .long p1, .long p2] : List Value).toArray below meth c (MQ below (va_Qi K (sm_B sm_wX D α) A) ([.ref (α.1 9), .long p1, .long p2] : List Value).toArray s 0 0 A) D A 6 (sm_wX σ α) 46 [] [.int y0] := by
    intro σ y0 hF H locs ls hP hS hl
    unfold mp_X9_alike_46 at hF
    obtain ⟨h1, hF⟩ := hF
    exact W.zret (v := y0) hx hb hr h1.1 (fun t ht hW => ⟨⟨y0, σ, rfl, hF, (by unfold sm_B; rw [ht]; exact hP)⟩, hS.F ht⟩) hS.2.2 dX9_alike_46
  have B45 : ∀ (σ : sm_S), mp_X9_alike_45 K σ → sm_J p l e (headSpec wp_X9_alike { frames := 2, cells := 0, slots := 0, locals := 46 }).room s m ([.ref (α.1 9), .long p1, .long p2] : List Value).toArray below meth c (MQ below (va_Qi K (sm_B sm_wX D α) A) ([.ref (α.1 9), .long p1, .long p2] : List Value).toArray s 0 0 A) D A 6 (sm_wX σ α) 45 [] [] := by
    intro σ hF H locs ls hP hS hl
    unfold mp_X9_alike_45 at hF
    refine lv_iconst (v := 0) hx hb dX9_alike_45 (by decide) ?_
    exact B46 σ 0 hF H locs ls hP hS (lv_sub hl [] rfl)
  have B21 : ∀ (σ : sm_S) (x1 : Int64) (x3 : Int64) (y0 : Int32), mp_X9_alike_21 K σ x1 x3 y0 → sm_J p l e (headSpec wp_X9_alike { frames := 2, cells := 0, slots := 0, locals := 46 }).room s m ([.ref (α.1 9), .long p1, .long p2] : List Value).toArray below meth c (MQ below (va_Qi K (sm_B sm_wX D α) A) ([.ref (α.1 9), .long p1, .long p2] : List Value).toArray s 0 0 A) D A 6 (sm_wX σ α) 21 [(0, .ref (α.1 9)), (1, .long x1), (3, .long x3)] [.int y0] := by
    intro σ x1 x3 y0 hF H locs ls hP hS hl
    unfold mp_X9_alike_21 at hF
    refine lv_istore (lv' := [(5, .int y0), (0, .ref (α.1 9)), (1, .long x1), (3, .long x3)]) hx hb dX9_alike_21 hl (by decide) rfl (fun ls hl => ?_)
    refine lv_iload hx hb dX9_alike_23 (lv_at hl 0 rfl) ?_
    refine lv_if_eq (tgt := 45) hx hb dX9_alike_25 (by decide) (fun h2 => ?_) (fun h2 => ?_)
    · replace hF := hF.1 h2
      exact B45 σ hF H locs ls hP hS (lv_sub hl [] rfl)
    · replace hF := hF.2 h2
      refine lv_aload_n hx hb dX9_alike_28 rfl (lv_at hl 1 rfl) ?_
      refine lv_lload_n hx hb dX9_alike_29 rfl (lv_at hl 2 rfl) ?_
      refine sm_vi (As := [.long x1]) (rest := []) hP hK hD hE hS hA ⟨hx, hb, hml, hown, hts⟩ hl.1 (c_X9_target l D H.size t0 σ α x1 _ hF) (cwV 1 hts wg_X9_alike_X9_target_41 rfl rfl rfl (by decide +kernel) ⟨Nat.le_of_ble_eq_true rfl, Nat.le_of_ble_eq_true rfl⟩) (va_recv hK hP (ci := 9) (q0 := 9) rfl (sm_gX9 σ α)) rfl rfl (Nat.le_of_ble_eq_true rfl) dX9_alike_30 ⟨Nat.zero_le _, Nat.zero_le _⟩ (fun r4 σ3 H locs hF hP hS => ?_)
      refine lv_aload_n hx hb dX9_alike_33 rfl (lv_at hl 1 rfl) ?_
      refine lv_lload_n hx hb dX9_alike_34 rfl (lv_at hl 3 rfl) ?_
      refine sm_vi (As := [.long x3]) (rest := [.int r4]) hP hK hD hE hS hA ⟨hx, hb, hml, hown, hts⟩ hl.1 (c_X9_target l D H.size t0 σ3 α x3 _ hF) (cwV 1 hts wg_X9_alike_X9_target_41 rfl rfl rfl (by decide +kernel) ⟨Nat.le_of_ble_eq_true rfl, Nat.le_of_ble_eq_true rfl⟩) (va_recv hK hP (ci := 9) (q0 := 9) rfl (sm_gX9 σ3 α)) rfl rfl (Nat.le_of_ble_eq_true rfl) dX9_alike_35 ⟨Nat.zero_le _, Nat.zero_le _⟩ (fun r6 σ5 H locs hF hP hS => ?_)
      refine lv_icmp_ne (tgt := 45) hx hb dX9_alike_38 (by decide) (fun h7 => ?_) (fun h7 => ?_)
      · replace hF := hF.1 h7
        exact B45 σ5 hF H locs ls hP hS (lv_sub hl [] rfl)
      · replace hF := hF.2 h7
        refine lv_iconst (v := 1) hx hb dX9_alike_41 (by decide) ?_
        refine lv_goto (tgt := 46) hx hb dX9_alike_42 (by decide) ?_
        exact B46 σ5 1 hF H locs ls hP hS (lv_sub hl [] rfl)
  have B20 : ∀ (σ : sm_S) (x1 : Int64) (x3 : Int64), mp_X9_alike_20 K σ x1 x3 → sm_J p l e (headSpec wp_X9_alike { frames := 2, cells := 0, slots := 0, locals := 46 }).room s m ([.ref (α.1 9), .long p1, .long p2] : List Value).toArray below meth c (MQ below (va_Qi K (sm_B sm_wX D α) A) ([.ref (α.1 9), .long p1, .long p2] : List Value).toArray s 0 0 A) D A 6 (sm_wX σ α) 20 [(0, .ref (α.1 9)), (1, .long x1), (3, .long x3)] [] := by
    intro σ x1 x3 hF H locs ls hP hS hl
    unfold mp_X9_alike_20 at hF
    refine lv_iconst (v := 0) hx hb dX9_alike_20 (by decide) ?_
    exact B21 σ x1 x3 0 hF H locs ls hP hS (lv_sub hl [0, 1, 2] rfl)
  unfold mp_X9_alike at hF
  revert hP hS
  generalize hLo : ([] : List Loc) = locs
  suffices h9 : ∀ (H : Heap) (locs : List Loc), va_P D vwCl (sm_wX σ α) H → va_S A s.heap H locs → W p l e (headSpec wp_X9_alike { frames := 2, cells := 0, slots := 0, locals := 46 }).room s m ([.ref (α.1 9), .long p1, .long p2] : List Value).toArray below meth c H locs 0 0 (MQ below (va_Qi K (sm_B sm_wX D α) A) ([.ref (α.1 9), .long p1, .long p2] : List Value).toArray s 0 0 A) (F0 m 0 ls []) from fun hP hS => h9 s.heap locs hP hS
  intro H locs hP hS
  refine lv_lload_n hx hb dX9_alike_0 rfl (lv_at hl 1 rfl) ?_
  refine sm_si (As := [.long p1]) (rest := []) hP hK hD hE hS hA ⟨hx, hb, hml, hown, hts⟩ hl.1 (c_X1_kind l D H.size t0 σ α p1 _ hF) (va_cwS 1 hts wg_X9_alike_X1_kind_33 rfl rfl rfl (by decide +kernel) ⟨Nat.le_of_ble_eq_true rfl, Nat.le_of_ble_eq_true rfl⟩) rfl rfl (Nat.le_of_ble_eq_true rfl) dX9_alike_1 ⟨Nat.zero_le _, Nat.zero_le _⟩ (fun r9 σ8 H locs hF hP hS => ?_)
  refine lv_iconst (v := 1) hx hb dX9_alike_4 (by decide) ?_
  refine lv_icmp_ne (tgt := 20) hx hb dX9_alike_5 (by decide) (fun h10 => ?_) (fun h10 => ?_)
  · replace hF := hF.1 h10
    exact B20 σ8 p1 p2 hF H locs ls hP hS (lv_sub hl [0, 1, 2] rfl)
  · replace hF := hF.2 h10
    refine lv_lload_n hx hb dX9_alike_8 rfl (lv_at hl 2 rfl) ?_
    refine sm_si (As := [.long p2]) (rest := []) hP hK hD hE hS hA ⟨hx, hb, hml, hown, hts⟩ hl.1 (c_X1_kind l D H.size t0 σ8 α p2 _ hF) (va_cwS 1 hts wg_X9_alike_X1_kind_33 rfl rfl rfl (by decide +kernel) ⟨Nat.le_of_ble_eq_true rfl, Nat.le_of_ble_eq_true rfl⟩) rfl rfl (Nat.le_of_ble_eq_true rfl) dX9_alike_9 ⟨Nat.zero_le _, Nat.zero_le _⟩ (fun r12 σ11 H locs hF hP hS => ?_)
    refine lv_iconst (v := 1) hx hb dX9_alike_12 (by decide) ?_
    refine lv_icmp_ne (tgt := 20) hx hb dX9_alike_13 (by decide) (fun h13 => ?_) (fun h13 => ?_)
    · replace hF := hF.1 h13
      exact B20 σ11 p1 p2 hF H locs ls hP hS (lv_sub hl [0, 1, 2] rfl)
    · replace hF := hF.2 h13
      refine lv_iconst (v := 1) hx hb dX9_alike_16 (by decide) ?_
      refine lv_goto (tgt := 21) hx hb dX9_alike_17 (by decide) ?_
      exact B21 σ11 p1 p2 1 hF H locs ls hP hS (lv_sub hl [0, 1, 2] rfl)
theorem dX10_tapeNumber_0 : decode cX10_tapeNumber 0 = .ok (.bipush 24, 2) := by decide +kernel
theorem dX10_tapeNumber_2 : decode cX10_tapeNumber 2 = .ok (.istore_n 2, 1) := by decide +kernel
theorem dX10_tapeNumber_3 : decode cX10_tapeNumber 3 = .ok (.iload_n 2, 1) := by decide +kernel
theorem dX10_tapeNumber_4 : decode cX10_tapeNumber 4 = .ok (.ifCond .lt 32, 3) := by decide +kernel
theorem dX10_tapeNumber_7 : decode cX10_tapeNumber 7 = .ok (.aload_n 0, 1) := by decide +kernel
theorem dX10_tapeNumber_8 : decode cX10_tapeNumber 8 = .ok (.getfield 7, 3) := by decide +kernel
theorem dX10_tapeNumber_11 : decode cX10_tapeNumber 11 = .ok (.aload_n 0, 1) := by decide +kernel
theorem dX10_tapeNumber_12 : decode cX10_tapeNumber 12 = .ok (.getfield 85, 3) := by decide +kernel
theorem dX10_tapeNumber_15 : decode cX10_tapeNumber 15 = .ok (.iload_n 1, 1) := by decide +kernel
theorem dX10_tapeNumber_16 : decode cX10_tapeNumber 16 = .ok (.iload_n 2, 1) := by decide +kernel
theorem dX10_tapeNumber_17 : decode cX10_tapeNumber 17 = .ok (.ishr, 1) := by decide +kernel
theorem dX10_tapeNumber_18 : decode cX10_tapeNumber 18 = .ok (.i2b, 1) := by decide +kernel
theorem dX10_tapeNumber_19 : decode cX10_tapeNumber 19 = .ok (.bastore, 1) := by decide +kernel
theorem dX10_tapeNumber_20 : decode cX10_tapeNumber 20 = .ok (.aload_n 0, 1) := by decide +kernel
theorem dX10_tapeNumber_21 : decode cX10_tapeNumber 21 = .ok (.dup, 1) := by decide +kernel
theorem dX10_tapeNumber_22 : decode cX10_tapeNumber 22 = .ok (.getfield 85, 3) := by decide +kernel
theorem dX10_tapeNumber_25 : decode cX10_tapeNumber 25 = .ok (.iconst 1, 1) := by decide +kernel
theorem dX10_tapeNumber_26 : decode cX10_tapeNumber 26 = .ok (.iadd, 1) := by decide +kernel
theorem dX10_tapeNumber_27 : decode cX10_tapeNumber 27 = .ok (.putfield 85, 3) := by decide +kernel
theorem dX10_tapeNumber_30 : decode cX10_tapeNumber 30 = .ok (.iinc 2 (-8), 3) := by decide +kernel
theorem dX10_tapeNumber_33 : decode cX10_tapeNumber 33 = .ok (.goto (-30), 3) := by decide +kernel
theorem dX10_tapeNumber_36 : decode cX10_tapeNumber 36 = .ok (.return_, 1) := by decide +kernel
def wp_X10_tapeNumber : List Cond := .code yX10_tapeNumber cX10_tapeNumber 3 none :: ([.fieldLink RX10 7 "SteadyMachine" "tape" "[B", .fieldLink RX10 85 "SteadyMachine" "taped" "I"] ++ wsX100)
theorem wq_X10_tapeNumber : wp_X10_tapeNumber.all goodWord = true := wa_c rfl (wa_a (by decide +kernel) uq_X10)
theorem wt_X10_tapeNumber : GoodIn lw_tbl wp_X10_tapeNumber := wm_c (List.mem_of_getElem? (i := 634) (by decide +kernel)) rfl (wm_a (goodIn_r _ [571, 572] (by decide +kernel) (by decide +kernel)) ut_X10)
theorem wi_X10_tapeNumber_X10 : ∀ w ∈ wsX100, w ∈ wp_X10_tapeNumber := fun w h => List.mem_cons_of_mem _ (List.mem_append_right _ h)
set_option maxHeartbeats 4000000 in
set_option maxRecDepth 100000 in
theorem c_X10_tapeNumber (l : Launch) (D : va_G) (sz t0 : Nat) (σ : sm_S) (α : sm_A) (p1 : Int32) (K : sm_S → Prop) (hF : mp_X10_tapeNumber σ p1 K) : Met l yX10_tapeNumber wp_X10_tapeNumber { frames := 0, cells := 0, slots := 0, locals := 0 } (sm_P sm_wX sm_tX 37 D sz t0 σ α [.ref (α.1 10), .int p1]) (va_Qv K (sm_B sm_wX D α) (sm_a α 37 sz)) 0 0 (sm_a α 37 sz) := by
  refine Met.ofW (cc := cX10_tapeNumber) (maxL := 3) (ret := none) (by decide) rfl ?_
  intro p e s m args below meth c s₁ B hml hv
  obtain ⟨rfl, hsz, hP, hK, hD0, hE⟩ := hv
  have hx := B.exec
  have hb := B.bytes
  have hr := B.returns
  have hts := atoms_spec (ws := wp_X10_tapeNumber) B.pre
  have hown : s.vm.findClass RX10 = some m.cls := findClass_of_methodNamed B.named
  have hlocks := B.notSynchronized
  subst hsz
  have hD : sm_D (sm_a α 37 s.heap.size) α 37 := hD0.own
  have hA : ∀ q : Nat, s.heap.size ≤ q → sm_a α 37 s.heap.size q := fun q h => Or.inr h
  generalize hAe : sm_a α 37 s.heap.size = A at hD hA hE ⊢
  have hS : va_S A s.heap s.heap [] := va_S.rf
  have in_X10 : ∀ w ∈ wsX100, w ∈ wp_X10_tapeNumber := wi_X10_tapeNumber_X10
  have k_0 := hts (.fieldLink RX10 7 "SteadyMachine" "tape" "[B") (by decide +kernel)
  have k_1 := hts (.fieldLink RX10 85 "SteadyMachine" "taped" "I") (by decide +kernel)
  have hl := lv_entry ([.ref (α.1 10), .int p1]) (n := 3) (Nat.le_of_ble_eq_true rfl)
  rw [lg_entry_eq]
  generalize (lg_sl ([.ref (α.1 10), .int p1]) ++ List.replicate (3 - (lg_sl ([.ref (α.1 10), .int p1])).length) Slot.unset).toArray = ls at hl ⊢
  have hl : lv_has ls 3 [(0, .ref (α.1 10)), (1, .int p1)] := hl
  have B3 : ∀ (n : Nat) (σ : sm_S) (x1 : Int32) (x2 : Int32), mp_X10_tapeNumber_3 K n σ x1 x2 → sm_J p l e (headSpec wp_X10_tapeNumber { frames := 0, cells := 0, slots := 0, locals := 0 }).room s m ([.ref (α.1 10), .int p1] : List Value).toArray below meth c (MQ below (va_Qv K (sm_B sm_wX D α) A) ([.ref (α.1 10), .int p1] : List Value).toArray s 0 0 A) D A 3 (sm_wX σ α) 3 [(0, .ref (α.1 10)), (1, .int x1), (2, .int x2)] [] := by
    intro n3
    induction n3 with
    | zero =>
      intro σ x1 x2 hF
      exact hF.elim
    | succ n3 ih3 =>
      intro σ x1 x2 hF H locs ls hP hS hl
      unfold mp_X10_tapeNumber_3 at hF
      refine lv_iload_n hx hb dX10_tapeNumber_3 rfl (lv_at hl 2 rfl) ?_
      refine lv_if_lt (tgt := 36) hx hb dX10_tapeNumber_4 (by decide) (fun h1 => ?_) (fun h1 => ?_)
      · replace hF := hF.1 h1
        exact W.vret hx hb hr (fun t ht hW => ⟨⟨σ, rfl, hF, (by unfold sm_B; rw [ht]; exact hP)⟩, hS.F ht⟩) hS.2.2 dX10_tapeNumber_36
      · replace hF := hF.2 h1
        refine lv_aload_n hx hb dX10_tapeNumber_7 rfl (lv_at hl 0 rfl) ?_
        refine va_get (D := D) (ci := 10) (v := .ref (α.1 36)) (C := RX10) (T := TX10) (N := 11) hx hb hts in_X10 hown hK hP 10 (sm_gX10 σ α) rfl 0 (by decide) k_0 (fun _ h9 => h9) rfl dX10_tapeNumber_8 ?_
        refine lv_aload_n hx hb dX10_tapeNumber_11 rfl (lv_at hl 0 rfl) ?_
        refine va_get (D := D) (ci := 10) (v := .int (σ.1 35)) (C := RX10) (T := TX10) (N := 11) hx hb hts in_X10 hown hK hP 10 (sm_gX10 σ α) rfl 1 (by decide) k_1 (fun _ h9 => h9) rfl dX10_tapeNumber_12 ?_
        refine lv_iload_n hx hb dX10_tapeNumber_15 rfl (lv_at hl 1 rfl) ?_
        refine lv_iload_n hx hb dX10_tapeNumber_16 rfl (lv_at hl 2 rfl) ?_
        refine lv_ishr hx hb dX10_tapeNumber_17 ?_
        refine lv_i2b hx hb dX10_tapeNumber_18 rfl ?_
        obtain ⟨h2, hF⟩ := hF
        refine va_bast (n := (σ.2.2.1 36)) (f := (σ.2.2.2.1 36)) (x := (x1 >>> (x2 &&& 31)).toInt8.toInt32) hx hb hK hP (hD.to (sm_wX_m _ _)) hS 36 25 (sm_aX36 σ α) (sm_yX36 α) h2 dX10_tapeNumber_19 (fun H locs hP _ hS => ?_)
        rw [sm_rX36] at hP
        obtain ⟨σ3, eσ3⟩ : ∃ x : sm_S, x = sm_r σ 36 (upd (σ.2.2.2.1 36) (σ.1 35).toNatClampNeg (vp_nar .byte ((x1 >>> (x2 &&& 31)).toInt8.toInt32))) := ⟨_, rfl⟩
        replace hF := hF σ3 eσ3
        rw [← eσ3] at hP
        refine lv_aload_n hx hb dX10_tapeNumber_20 rfl (lv_at hl 0 rfl) ?_
        refine lv_dup hx hb dX10_tapeNumber_21 rfl ?_
        refine va_get (D := D) (ci := 10) (v := .int (σ3.1 35)) (C := RX10) (T := TX10) (N := 11) hx hb hts in_X10 hown hK hP 10 (sm_gX10 σ3 α) rfl 1 (by decide) k_1 (fun _ h9 => h9) rfl dX10_tapeNumber_22 ?_
        refine lv_iconst (v := 1) hx hb dX10_tapeNumber_25 (by decide) ?_
        refine lv_iadd hx hb dX10_tapeNumber_26 ?_
        refine va_put (D := D) (ci := 10) (v := .int ((σ3.1 35) + 1)) (ty := .int) (C := RX10) (T := TX10) (N := 11) hx hb hts in_X10 tyX10 tyX10_ok nmX10 hown hK hP (hD.to (sm_wX_m _ _)) hS 10 (sm_gX10 σ3 α) rfl 1 (by decide) k_1 (fun _ h9 => h9) rfl (by decide +kernel) rfl rfl (Nat.le_of_ble_eq_true rfl) dX10_tapeNumber_27 (fun H locs hP _ hS => ?_)
        rw [sm_iX35] at hP
        obtain ⟨σ4, eσ4⟩ : ∃ x : sm_S, x = sm_i σ3 35 ((σ3.1 35) + 1) := ⟨_, rfl⟩
        replace hF := hF σ4 eσ4
        rw [← eσ4] at hP
        obtain ⟨v5, ev5⟩ : ∃ y : Int32, y = x2 + (-8) := ⟨_, rfl⟩
        replace hF := hF v5 ev5
        refine lv_iinc (v := v5) (lv' := [(2, .int v5), (0, .ref (α.1 10)), (1, .int x1)]) hx hb dX10_tapeNumber_30 hl (k := 2) rfl (by rw [ev5]; rfl) (by decide) rfl (fun ls hl => ?_)
        refine lv_goto (tgt := 3) hx hb dX10_tapeNumber_33 (by decide) ?_
        exact ih3 σ4 x1 v5 hF H locs ls hP hS (lv_sub hl [1, 2, 0] rfl)
  unfold mp_X10_tapeNumber at hF
  revert hP hS
  generalize hLo : ([] : List Loc) = locs
  suffices h9 : ∀ (H : Heap) (locs : List Loc), va_P D vwCl (sm_wX σ α) H → va_S A s.heap H locs → W p l e (headSpec wp_X10_tapeNumber { frames := 0, cells := 0, slots := 0, locals := 0 }).room s m ([.ref (α.1 10), .int p1] : List Value).toArray below meth c H locs 0 0 (MQ below (va_Qv K (sm_B sm_wX D α) A) ([.ref (α.1 10), .int p1] : List Value).toArray s 0 0 A) (F0 m 0 ls []) from fun hP hS => h9 s.heap locs hP hS
  intro H locs hP hS
  refine lv_bipush (v := 24) hx hb dX10_tapeNumber_0 (by decide) ?_
  refine lv_istore_n (lv' := [(2, .int 24), (0, .ref (α.1 10)), (1, .int p1)]) hx hb dX10_tapeNumber_2 rfl hl (by decide) rfl (fun ls hl => ?_)
  obtain ⟨n3, hF⟩ := hF
  exact B3 n3 σ p1 24 hF H locs ls hP hS (lv_sub hl [1, 2, 0] rfl)
theorem dX10_input_0 : decode cX10_input 0 = .ok (.aload_n 0, 1) := by decide +kernel
theorem dX10_input_1 : decode cX10_input 1 = .ok (.getfield 46, 3) := by decide +kernel
theorem dX10_input_4 : decode cX10_input 4 = .ok (.iload_n 1, 1) := by decide +kernel
theorem dX10_input_5 : decode cX10_input 5 = .ok (.invokevirtual 125, 3) := by decide +kernel
theorem dX10_input_8 : decode cX10_input 8 = .ok (.ireturn, 1) := by decide +kernel
def wp_X10_input : List Cond := .code yX10_input cX10_input 2 (some .int) :: (([.fieldLink RX10 46 "SteadyMachine" "ports" "LSteadyMachine$Ports;"] ++ (wsV RX10 125 RX5 yX5_add wp_X5_add)) ++ wsX100)
theorem wq_X10_input : wp_X10_input.all goodWord = true := wa_c rfl (wa_a (wa_a (by decide +kernel) (wa_V wq_X5_add)) uq_X10)
theorem wt_X10_input : GoodIn lw_tbl wp_X10_input := wm_c (List.mem_of_getElem? (i := 849) (by decide +kernel)) rfl (wm_a (wm_a (goodIn_r _ [578] (by decide +kernel) (by decide +kernel)) (wm_a (goodIn_r _ [850, 851, 852, 143] (by decide +kernel) (by decide +kernel)) wt_X5_add)) ut_X10)
theorem wg_X10_input_X5_add_125 : GoodIn wp_X10_input (wsV RX10 125 RX5 yX5_add wp_X5_add) := goodIn_sub (fun w h => List.mem_cons_of_mem _ (List.mem_append_left _ (List.mem_append_right _ h))) (wa_V wq_X5_add)
theorem wi_X10_input_X10 : ∀ w ∈ wsX100, w ∈ wp_X10_input := fun w h => List.mem_cons_of_mem _ (List.mem_append_right _ h)
set_option maxHeartbeats 4000000 in
set_option maxRecDepth 100000 in
theorem c_X10_input (l : Launch) (D : va_G) (sz t0 : Nat) (σ : sm_S) (α : sm_A) (p1 : Int32) (K : Int32 → sm_S → Prop) (hF : mp_X10_input σ p1 K) : Met l yX10_input wp_X10_input { frames := 1, cells := 0, slots := 0, locals := 21 } (sm_P sm_wX sm_tX 37 D sz t0 σ α [.ref (α.1 10), .int p1]) (va_Qi K (sm_B sm_wX D α) (sm_a α 37 sz)) 0 0 (sm_a α 37 sz) := by
  refine Met.ofW (cc := cX10_input) (maxL := 2) (ret := (some .int)) (by decide) rfl ?_
  intro p e s m args below meth c s₁ B hml hv
  obtain ⟨rfl, hsz, hP, hK, hD0, hE⟩ := hv
  have hx := B.exec
  have hb := B.bytes
  have hr := B.returns
  have hts := atoms_spec (ws := wp_X10_input) B.pre
  have hown : s.vm.findClass RX10 = some m.cls := findClass_of_methodNamed B.named
  have hlocks := B.notSynchronized
  subst hsz
  have hD : sm_D (sm_a α 37 s.heap.size) α 37 := hD0.own
  have hA : ∀ q : Nat, s.heap.size ≤ q → sm_a α 37 s.heap.size q := fun q h => Or.inr h
  generalize hAe : sm_a α 37 s.heap.size = A at hD hA hE ⊢
  have hS : va_S A s.heap s.heap [] := va_S.rf
  have in_X10 : ∀ w ∈ wsX100, w ∈ wp_X10_input := wi_X10_input_X10
  have k_0 := hts (.fieldLink RX10 46 "SteadyMachine" "ports" "LSteadyMachine$Ports;") (by decide +kernel)
  have hl := lv_entry ([.ref (α.1 10), .int p1]) (n := 2) (Nat.le_of_ble_eq_true rfl)
  rw [lg_entry_eq]
  generalize (lg_sl ([.ref (α.1 10), .int p1]) ++ List.replicate (2 - (lg_sl ([.ref (α.1 10), .int p1])).length) Slot.unset).toArray = ls at hl ⊢
  have hl : lv_has ls 2 [(0, .ref (α.1 10)), (1, .int p1)] := hl
  unfold mp_X10_input at hF
  revert hP hS
  generalize hLo : ([] : List Loc) = locs
  suffices h9 : ∀ (H : Heap) (locs : List Loc), va_P D vwCl (sm_wX σ α) H → va_S A s.heap H locs → W p l e (headSpec wp_X10_input { frames := 1, cells := 0, slots := 0, locals := 21 }).room s m ([.ref (α.1 10), .int p1] : List Value).toArray below meth c H locs 0 0 (MQ below (va_Qi K (sm_B sm_wX D α) A) ([.ref (α.1 10), .int p1] : List Value).toArray s 0 0 A) (F0 m 0 ls []) from fun hP hS => h9 s.heap locs hP hS
  intro H locs hP hS
  refine lv_aload_n hx hb dX10_input_0 rfl (lv_at hl 0 rfl) ?_
  refine va_get (D := D) (ci := 10) (v := .ref (α.1 5)) (C := RX10) (T := TX10) (N := 11) hx hb hts in_X10 hown hK hP 10 (sm_gX10 σ α) rfl 7 (by decide) k_0 (fun _ h9 => h9) rfl dX10_input_1 ?_
  refine lv_iload_n hx hb dX10_input_4 rfl (lv_at hl 1 rfl) ?_
  refine sm_vi (As := [.int p1]) (rest := []) hP hK hD hE hS hA ⟨hx, hb, hml, hown, hts⟩ hl.1 (c_X5_add l D H.size t0 σ α p1 _ hF) (cwV 1 hts wg_X10_input_X5_add_125 rfl rfl rfl (by decide +kernel) ⟨Nat.le_of_ble_eq_true rfl, Nat.le_of_ble_eq_true rfl⟩) (va_recv hK hP (ci := 5) (q0 := 5) rfl (sm_gX5 σ α)) rfl rfl (Nat.le_of_ble_eq_true rfl) dX10_input_5 ⟨Nat.zero_le _, Nat.zero_le _⟩ (fun r2 σ1 H locs hF hP hS => ?_)
  exact W.iret (v := r2) hx hb hr (fun t ht hW => ⟨⟨r2, σ1, rfl, hF, (by unfold sm_B; rw [ht]; exact hP)⟩, hS.F ht⟩) hS.2.2 dX10_input_8
theorem dX10_clear_0 : decode cX10_clear 0 = .ok (.aload_n 0, 1) := by decide +kernel
theorem dX10_clear_1 : decode cX10_clear 1 = .ok (.getfield 46, 3) := by decide +kernel
theorem dX10_clear_4 : decode cX10_clear 4 = .ok (.iconst 0, 1) := by decide +kernel
theorem dX10_clear_5 : decode cX10_clear 5 = .ok (.putfield 129, 3) := by decide +kernel
theorem dX10_clear_8 : decode cX10_clear 8 = .ok (.return_, 1) := by decide +kernel
def wp_X10_clear : List Cond := .code yX10_clear cX10_clear 1 none :: (([.fieldLink RX10 46 "SteadyMachine" "ports" "LSteadyMachine$Ports;", .fieldLink RX10 129 "SteadyMachine$Ports" "inputs" "I"] ++ wsX100) ++ wsX50)
theorem wq_X10_clear : wp_X10_clear.all goodWord = true := wa_c rfl (wa_a (wa_a (by decide +kernel) uq_X10) uq_X5)
theorem wt_X10_clear : GoodIn lw_tbl wp_X10_clear := wm_c (List.mem_of_getElem? (i := 857) (by decide +kernel)) rfl (wm_a (wm_a (goodIn_r _ [578, 423] (by decide +kernel) (by decide +kernel)) ut_X10) ut_X5)
theorem wi_X10_clear_X10 : ∀ w ∈ wsX100, w ∈ wp_X10_clear := fun w h => List.mem_cons_of_mem _ (List.mem_append_left _ (List.mem_append_right _ h))
theorem wi_X10_clear_X5 : ∀ w ∈ wsX50, w ∈ wp_X10_clear := fun w h => List.mem_cons_of_mem _ (List.mem_append_right _ h)
set_option maxHeartbeats 4000000 in
set_option maxRecDepth 100000 in
theorem c_X10_clear (l : Launch) (D : va_G) (sz t0 : Nat) (σ : sm_S) (α : sm_A) (K : sm_S → Prop) (hF : mp_X10_clear σ K) : Met l yX10_clear wp_X10_clear { frames := 0, cells := 0, slots := 0, locals := 0 } (sm_P sm_wX sm_tX 37 D sz t0 σ α [.ref (α.1 10)]) (va_Qv K (sm_B sm_wX D α) (sm_a α 37 sz)) 0 0 (sm_a α 37 sz) := by
  refine Met.ofW (cc := cX10_clear) (maxL := 1) (ret := none) (by decide) rfl ?_
  intro p e s m args below meth c s₁ B hml hv
  obtain ⟨rfl, hsz, hP, hK, hD0, hE⟩ := hv
  have hx := B.exec
  have hb := B.bytes
  have hr := B.returns
  have hts := atoms_spec (ws := wp_X10_clear) B.pre
  have hown : s.vm.findClass RX10 = some m.cls := findClass_of_methodNamed B.named
  have hlocks := B.notSynchronized
  subst hsz
  have hD : sm_D (sm_a α 37 s.heap.size) α 37 := hD0.own
  have hA : ∀ q : Nat, s.heap.size ≤ q → sm_a α 37 s.heap.size q := fun q h => Or.inr h
  generalize hAe : sm_a α 37 s.heap.size = A at hD hA hE ⊢
  have hS : va_S A s.heap s.heap [] := va_S.rf
  have in_X10 : ∀ w ∈ wsX100, w ∈ wp_X10_clear := wi_X10_clear_X10
  have in_X5 : ∀ w ∈ wsX50, w ∈ wp_X10_clear := wi_X10_clear_X5
  have k_0 := hts (.fieldLink RX10 46 "SteadyMachine" "ports" "LSteadyMachine$Ports;") (by decide +kernel)
  have k_1 := hts (.fieldLink RX10 129 "SteadyMachine$Ports" "inputs" "I") (by decide +kernel)
  have hl := lv_entry ([.ref (α.1 10)]) (n := 1) (Nat.le_of_ble_eq_true rfl)
  rw [lg_entry_eq]
  generalize (lg_sl ([.ref (α.1 10)]) ++ List.replicate (1 - (lg_sl ([.ref (α.1 10)])).length) Slot.unset).toArray = ls at hl ⊢
  have hl : lv_has ls 1 [(0, .ref (α.1 10))] := hl
  unfold mp_X10_clear at hF
  revert hP hS
  generalize hLo : ([] : List Loc) = locs
  suffices h9 : ∀ (H : Heap) (locs : List Loc), va_P D vwCl (sm_wX σ α) H → va_S A s.heap H locs → W p l e (headSpec wp_X10_clear { frames := 0, cells := 0, slots := 0, locals := 0 }).room s m ([.ref (α.1 10)] : List Value).toArray below meth c H locs 0 0 (MQ below (va_Qv K (sm_B sm_wX D α) A) ([.ref (α.1 10)] : List Value).toArray s 0 0 A) (F0 m 0 ls []) from fun hP hS => h9 s.heap locs hP hS
  intro H locs hP hS
  refine lv_aload_n hx hb dX10_clear_0 rfl (lv_at hl 0 rfl) ?_
  refine va_get (D := D) (ci := 10) (v := .ref (α.1 5)) (C := RX10) (T := TX10) (N := 11) hx hb hts in_X10 hown hK hP 10 (sm_gX10 σ α) rfl 7 (by decide) k_0 (fun _ h9 => h9) rfl dX10_clear_1 ?_
  refine lv_iconst (v := 0) hx hb dX10_clear_4 (by decide) ?_
  refine va_put (D := D) (ci := 5) (v := .int 0) (ty := .int) (C := RX5) (T := TX5) (N := 5) hx hb hts in_X5 tyX5 tyX5_ok nmX5 hown hK hP (hD.to (sm_wX_m _ _)) hS 5 (sm_gX5 σ α) rfl 1 (by decide) k_1 (fun _ h9 => h9) rfl (by decide +kernel) rfl rfl (Nat.le_of_ble_eq_true rfl) dX10_clear_5 (fun H locs hP _ hS => ?_)
  rw [sm_iX18] at hP
  obtain ⟨σ1, eσ1⟩ : ∃ x : sm_S, x = sm_i σ 18 0 := ⟨_, rfl⟩
  replace hF := hF σ1 eσ1
  rw [← eσ1] at hP
  exact W.vret hx hb hr (fun t ht hW => ⟨⟨σ1, rfl, hF, (by unfold sm_B; rw [ht]; exact hP)⟩, hS.F ht⟩) hS.2.2 dX10_clear_8
theorem dX10_run_0 : decode cX10_run 0 = .ok (.iload_n 1, 1) := by decide +kernel
theorem dX10_run_1 : decode cX10_run 1 = .ok (.ifCond .lt 21, 3) := by decide +kernel
theorem dX10_run_4 : decode cX10_run 4 = .ok (.iload_n 1, 1) := by decide +kernel
theorem dX10_run_5 : decode cX10_run 5 = .ok (.sipush 20000, 3) := by decide +kernel
theorem dX10_run_8 : decode cX10_run 8 = .ok (.if_icmp .gt 14, 3) := by decide +kernel
theorem dX10_run_11 : decode cX10_run 11 = .ok (.aload_n 0, 1) := by decide +kernel
theorem dX10_run_12 : decode cX10_run 12 = .ok (.getfield 72, 3) := by decide +kernel
theorem dX10_run_15 : decode cX10_run 15 = .ok (.getfield 103, 3) := by decide +kernel
theorem dX10_run_18 : decode cX10_run 18 = .ok (.iconst 1, 1) := by decide +kernel
theorem dX10_run_19 : decode cX10_run 19 = .ok (.if_icmp .eq 5, 3) := by decide +kernel
theorem dX10_run_22 : decode cX10_run 22 = .ok (.iconst (-1), 1) := by decide +kernel
theorem dX10_run_23 : decode cX10_run 23 = .ok (.ireturn, 1) := by decide +kernel
theorem dX10_run_24 : decode cX10_run 24 = .ok (.iconst 0, 1) := by decide +kernel
theorem dX10_run_25 : decode cX10_run 25 = .ok (.istore_n 2, 1) := by decide +kernel
theorem dX10_run_26 : decode cX10_run 26 = .ok (.iconst 0, 1) := by decide +kernel
theorem dX10_run_27 : decode cX10_run 27 = .ok (.istore_n 3, 1) := by decide +kernel
theorem dX10_run_28 : decode cX10_run 28 = .ok (.iload_n 3, 1) := by decide +kernel
theorem dX10_run_29 : decode cX10_run 29 = .ok (.iload_n 1, 1) := by decide +kernel
theorem dX10_run_30 : decode cX10_run 30 = .ok (.if_icmp .ge 33, 3) := by decide +kernel
theorem dX10_run_33 : decode cX10_run 33 = .ok (.aload_n 0, 1) := by decide +kernel
theorem dX10_run_34 : decode cX10_run 34 = .ok (.getfield 72, 3) := by decide +kernel
theorem dX10_run_37 : decode cX10_run 37 = .ok (.getfield 103, 3) := by decide +kernel
theorem dX10_run_40 : decode cX10_run 40 = .ok (.iconst 1, 1) := by decide +kernel
theorem dX10_run_41 : decode cX10_run 41 = .ok (.if_icmp .ne 22, 3) := by decide +kernel
theorem dX10_run_44 : decode cX10_run 44 = .ok (.aload_n 0, 1) := by decide +kernel
theorem dX10_run_45 : decode cX10_run 45 = .ok (.getfield 72, 3) := by decide +kernel
theorem dX10_run_48 : decode cX10_run 48 = .ok (.invokevirtual 151, 3) := by decide +kernel
theorem dX10_run_51 : decode cX10_run 51 = .ok (.ifCond .eq 6, 3) := by decide +kernel
theorem dX10_run_54 : decode cX10_run 54 = .ok (.iinc 2 1, 3) := by decide +kernel
theorem dX10_run_57 : decode cX10_run 57 = .ok (.iinc 3 1, 3) := by decide +kernel
theorem dX10_run_60 : decode cX10_run 60 = .ok (.goto (-32), 3) := by decide +kernel
theorem dX10_run_63 : decode cX10_run 63 = .ok (.iload_n 2, 1) := by decide +kernel
theorem dX10_run_64 : decode cX10_run 64 = .ok (.ireturn, 1) := by decide +kernel
def wp_X10_run : List Cond := .code yX10_run cX10_run 4 (some .int) :: ((([.fieldLink RX10 72 "SteadyMachine" "runner" "LSteadyMachine$Runner;", .fieldLink RX10 103 "SteadyMachine$Runner" "state" "I"] ++ (wsV RX10 151 RX7 yX7_step wp_X7_step)) ++ wsX100) ++ wsX70)
theorem wq_X10_run : wp_X10_run.all goodWord = true := wa_c rfl (wa_a (wa_a (wa_a (by decide +kernel) (wa_V wq_X7_step)) uq_X10) uq_X7)
theorem wt_X10_run : GoodIn lw_tbl wp_X10_run := wm_c (List.mem_of_getElem? (i := 940) (by decide +kernel)) rfl (wm_a (wm_a (wm_a (goodIn_r _ [580, 518] (by decide +kernel) (by decide +kernel)) (wm_a (goodIn_r _ [941, 942, 943, 145] (by decide +kernel) (by decide +kernel)) wt_X7_step)) ut_X10) ut_X7)
theorem wg_X10_run_X7_step_151 : GoodIn wp_X10_run (wsV RX10 151 RX7 yX7_step wp_X7_step) := goodIn_sub (fun w h => List.mem_cons_of_mem _ (List.mem_append_left _ (List.mem_append_left _ (List.mem_append_right _ h)))) (wa_V wq_X7_step)
theorem wi_X10_run_X10 : ∀ w ∈ wsX100, w ∈ wp_X10_run := fun w h => List.mem_cons_of_mem _ (List.mem_append_left _ (List.mem_append_right _ h))
theorem wi_X10_run_X7 : ∀ w ∈ wsX70, w ∈ wp_X10_run := fun w h => List.mem_cons_of_mem _ (List.mem_append_right _ h)
set_option maxHeartbeats 4000000 in
set_option maxRecDepth 100000 in
theorem c_X10_run (l : Launch) (D : va_G) (sz t0 : Nat) (σ : sm_S) (α : sm_A) (p1 : Int32) (K : Int32 → sm_S → Prop) (hF : mp_X10_run σ p1 K) : Met l yX10_run wp_X10_run { frames := 7, cells := 0, slots := 0, locals := 166 } (sm_P sm_wX sm_tX 37 D sz t0 σ α [.ref (α.1 10), .int p1]) (va_Qi K (sm_B sm_wX D α) (sm_a α 37 sz)) 0 0 (sm_a α 37 sz) := by
  refine Met.ofW (cc := cX10_run) (maxL := 4) (ret := (some .int)) (by decide) rfl ?_
  intro p e s m args below meth c s₁ B hml hv
  obtain ⟨rfl, hsz, hP, hK, hD0, hE⟩ := hv
  have hx := B.exec
  have hb := B.bytes
  have hr := B.returns
  have hts := atoms_spec (ws := wp_X10_run) B.pre
  have hown : s.vm.findClass RX10 = some m.cls := findClass_of_methodNamed B.named
  have hlocks := B.notSynchronized
  subst hsz
  have hD : sm_D (sm_a α 37 s.heap.size) α 37 := hD0.own
  have hA : ∀ q : Nat, s.heap.size ≤ q → sm_a α 37 s.heap.size q := fun q h => Or.inr h
  generalize hAe : sm_a α 37 s.heap.size = A at hD hA hE ⊢
  have hS : va_S A s.heap s.heap [] := va_S.rf
  have in_X10 : ∀ w ∈ wsX100, w ∈ wp_X10_run := wi_X10_run_X10
  have in_X7 : ∀ w ∈ wsX70, w ∈ wp_X10_run := wi_X10_run_X7
  have k_0 := hts (.fieldLink RX10 72 "SteadyMachine" "runner" "LSteadyMachine$Runner;") (by decide +kernel)
  have k_1 := hts (.fieldLink RX10 103 "SteadyMachine$Runner" "state" "I") (by decide +kernel)
  have hl := lv_entry ([.ref (α.1 10), .int p1]) (n := 4) (Nat.le_of_ble_eq_true rfl)
  rw [lg_entry_eq]
  generalize (lg_sl ([.ref (α.1 10), .int p1]) ++ List.replicate (4 - (lg_sl ([.ref (α.1 10), .int p1])).length) Slot.unset).toArray = ls at hl ⊢
  have hl : lv_has ls 4 [(0, .ref (α.1 10)), (1, .int p1)] := hl
  have B63 : ∀ (σ : sm_S) (x2 : Int32), mp_X10_run_63 K σ x2 → sm_J p l e (headSpec wp_X10_run { frames := 7, cells := 0, slots := 0, locals := 166 }).room s m ([.ref (α.1 10), .int p1] : List Value).toArray below meth c (MQ below (va_Qi K (sm_B sm_wX D α) A) ([.ref (α.1 10), .int p1] : List Value).toArray s 0 0 A) D A 4 (sm_wX σ α) 63 [(2, .int x2)] [] := by
    intro σ x2 hF H locs ls hP hS hl
    unfold mp_X10_run_63 at hF
    refine lv_iload_n hx hb dX10_run_63 rfl (lv_at hl 0 rfl) ?_
    exact W.iret (v := x2) hx hb hr (fun t ht hW => ⟨⟨x2, σ, rfl, hF, (by unfold sm_B; rw [ht]; exact hP)⟩, hS.F ht⟩) hS.2.2 dX10_run_64
  have B57 : ∀ (L28 : sm_S → Int32 → Int32 → Int32 → Prop) (hL28 : ∀ (σ : sm_S) (x1 : Int32) (x2 : Int32) (x3 : Int32), L28 σ x1 x2 x3 → sm_J p l e (headSpec wp_X10_run { frames := 7, cells := 0, slots := 0, locals := 166 }).room s m ([.ref (α.1 10), .int p1] : List Value).toArray below meth c (MQ below (va_Qi K (sm_B sm_wX D α) A) ([.ref (α.1 10), .int p1] : List Value).toArray s 0 0 A) D A 4 (sm_wX σ α) 28 [(0, .ref (α.1 10)), (1, .int x1), (2, .int x2), (3, .int x3)] []) (σ : sm_S) (x1 : Int32) (x2 : Int32) (x3 : Int32), mp_X10_run_57 L28 K σ x1 x2 x3 → sm_J p l e (headSpec wp_X10_run { frames := 7, cells := 0, slots := 0, locals := 166 }).room s m ([.ref (α.1 10), .int p1] : List Value).toArray below meth c (MQ below (va_Qi K (sm_B sm_wX D α) A) ([.ref (α.1 10), .int p1] : List Value).toArray s 0 0 A) D A 4 (sm_wX σ α) 57 [(0, .ref (α.1 10)), (1, .int x1), (2, .int x2), (3, .int x3)] [] := by
    intro L28 hL28 σ x1 x2 x3 hF H locs ls hP hS hl
    unfold mp_X10_run_57 at hF
    obtain ⟨v1, ev1⟩ : ∃ y : Int32, y = x3 + 1 := ⟨_, rfl⟩
    replace hF := hF v1 ev1
    refine lv_iinc (v := v1) (lv' := [(3, .int v1), (0, .ref (α.1 10)), (1, .int x1), (2, .int x2)]) hx hb dX10_run_57 hl (k := 3) rfl (by rw [ev1]; rfl) (by decide) rfl (fun ls hl => ?_)
    refine lv_goto (tgt := 28) hx hb dX10_run_60 (by decide) ?_
    exact hL28 σ x1 x2 v1 hF H locs ls hP hS (lv_sub hl [1, 2, 3, 0] rfl)
  have B28 : ∀ (n : Nat) (σ : sm_S) (x1 : Int32) (x2 : Int32) (x3 : Int32), mp_X10_run_28 K n σ x1 x2 x3 → sm_J p l e (headSpec wp_X10_run { frames := 7, cells := 0, slots := 0, locals := 166 }).room s m ([.ref (α.1 10), .int p1] : List Value).toArray below meth c (MQ below (va_Qi K (sm_B sm_wX D α) A) ([.ref (α.1 10), .int p1] : List Value).toArray s 0 0 A) D A 4 (sm_wX σ α) 28 [(0, .ref (α.1 10)), (1, .int x1), (2, .int x2), (3, .int x3)] [] := by
    intro n28
    induction n28 with
    | zero =>
      intro σ x1 x2 x3 hF
      exact hF.elim
    | succ n28 ih28 =>
      intro σ x1 x2 x3 hF H locs ls hP hS hl
      unfold mp_X10_run_28 at hF
      refine lv_iload_n hx hb dX10_run_28 rfl (lv_at hl 3 rfl) ?_
      refine lv_iload_n hx hb dX10_run_29 rfl (lv_at hl 1 rfl) ?_
      refine lv_icmp_ge (tgt := 63) hx hb dX10_run_30 (by decide) (fun h2 => ?_) (fun h2 => ?_)
      · replace hF := hF.1 h2
        exact B63 σ x2 hF H locs ls hP hS (lv_sub hl [2] rfl)
      · replace hF := hF.2 h2
        refine lv_aload_n hx hb dX10_run_33 rfl (lv_at hl 0 rfl) ?_
        refine va_get (D := D) (ci := 10) (v := .ref (α.1 7)) (C := RX10) (T := TX10) (N := 11) hx hb hts in_X10 hown hK hP 10 (sm_gX10 σ α) rfl 9 (by decide) k_0 (fun _ h9 => h9) rfl dX10_run_34 ?_
        refine va_get (D := D) (ci := 7) (v := .int (σ.1 22)) (C := RX7) (T := TX7) (N := 13) hx hb hts in_X7 hown hK hP 7 (sm_gX7 σ α) rfl 5 (by decide) k_1 (fun _ h9 => h9) rfl dX10_run_37 ?_
        refine lv_iconst (v := 1) hx hb dX10_run_40 (by decide) ?_
        refine lv_icmp_ne (tgt := 63) hx hb dX10_run_41 (by decide) (fun h3 => ?_) (fun h3 => ?_)
        · replace hF := hF.1 h3
          exact B63 σ x2 hF H locs ls hP hS (lv_sub hl [2] rfl)
        · replace hF := hF.2 h3
          refine lv_aload_n hx hb dX10_run_44 rfl (lv_at hl 0 rfl) ?_
          refine va_get (D := D) (ci := 10) (v := .ref (α.1 7)) (C := RX10) (T := TX10) (N := 11) hx hb hts in_X10 hown hK hP 10 (sm_gX10 σ α) rfl 9 (by decide) k_0 (fun _ h9 => h9) rfl dX10_run_45 ?_
          refine sm_vi (As := []) (rest := []) hP hK hD hE hS hA ⟨hx, hb, hml, hown, hts⟩ hl.1 (c_X7_step l D H.size t0 σ α _ hF) (cwV 0 hts wg_X10_run_X7_step_151 rfl rfl rfl (by decide +kernel) ⟨Nat.le_of_ble_eq_true rfl, Nat.le_of_ble_eq_true rfl⟩) (va_recv hK hP (ci := 7) (q0 := 7) rfl (sm_gX7 σ α)) rfl rfl (Nat.le_of_ble_eq_true rfl) dX10_run_48 ⟨Nat.zero_le _, Nat.zero_le _⟩ (fun r5 σ4 H locs hF hP hS => ?_)
          refine lv_if_eq (tgt := 57) hx hb dX10_run_51 (by decide) (fun h6 => ?_) (fun h6 => ?_)
          · replace hF := hF.1 h6
            exact B57 (mp_X10_run_28 K n28) ih28 σ4 x1 x2 x3 hF H locs ls hP hS (lv_sub hl [0, 1, 2, 3] rfl)
          · replace hF := hF.2 h6
            obtain ⟨v7, ev7⟩ : ∃ y : Int32, y = x2 + 1 := ⟨_, rfl⟩
            replace hF := hF v7 ev7
            refine lv_iinc (v := v7) (lv' := [(2, .int v7), (0, .ref (α.1 10)), (1, .int x1), (3, .int x3)]) hx hb dX10_run_54 hl (k := 2) rfl (by rw [ev7]; rfl) (by decide) rfl (fun ls hl => ?_)
            exact B57 (mp_X10_run_28 K n28) ih28 σ4 x1 v7 x3 hF H locs ls hP hS (lv_sub hl [1, 2, 0, 3] rfl)
  have B22 : ∀ (σ : sm_S), mp_X10_run_22 K σ → sm_J p l e (headSpec wp_X10_run { frames := 7, cells := 0, slots := 0, locals := 166 }).room s m ([.ref (α.1 10), .int p1] : List Value).toArray below meth c (MQ below (va_Qi K (sm_B sm_wX D α) A) ([.ref (α.1 10), .int p1] : List Value).toArray s 0 0 A) D A 4 (sm_wX σ α) 22 [] [] := by
    intro σ hF H locs ls hP hS hl
    unfold mp_X10_run_22 at hF
    refine lv_iconst (v := -1) hx hb dX10_run_22 (by decide) ?_
    exact W.iret (v := (-1)) hx hb hr (fun t ht hW => ⟨⟨(-1), σ, rfl, hF, (by unfold sm_B; rw [ht]; exact hP)⟩, hS.F ht⟩) hS.2.2 dX10_run_23
  unfold mp_X10_run at hF
  revert hP hS
  generalize hLo : ([] : List Loc) = locs
  suffices h9 : ∀ (H : Heap) (locs : List Loc), va_P D vwCl (sm_wX σ α) H → va_S A s.heap H locs → W p l e (headSpec wp_X10_run { frames := 7, cells := 0, slots := 0, locals := 166 }).room s m ([.ref (α.1 10), .int p1] : List Value).toArray below meth c H locs 0 0 (MQ below (va_Qi K (sm_B sm_wX D α) A) ([.ref (α.1 10), .int p1] : List Value).toArray s 0 0 A) (F0 m 0 ls []) from fun hP hS => h9 s.heap locs hP hS
  intro H locs hP hS
  refine lv_iload_n hx hb dX10_run_0 rfl (lv_at hl 1 rfl) ?_
  refine lv_if_lt (tgt := 22) hx hb dX10_run_1 (by decide) (fun h8 => ?_) (fun h8 => ?_)
  · replace hF := hF.1 h8
    exact B22 σ hF H locs ls hP hS (lv_sub hl [] rfl)
  · replace hF := hF.2 h8
    refine lv_iload_n hx hb dX10_run_4 rfl (lv_at hl 1 rfl) ?_
    refine lv_sipush (v := 20000) hx hb dX10_run_5 (by decide) ?_
    refine lv_icmp_gt (tgt := 22) hx hb dX10_run_8 (by decide) (fun h9 => ?_) (fun h9 => ?_)
    · replace hF := hF.1 h9
      exact B22 σ hF H locs ls hP hS (lv_sub hl [] rfl)
    · replace hF := hF.2 h9
      refine lv_aload_n hx hb dX10_run_11 rfl (lv_at hl 0 rfl) ?_
      refine va_get (D := D) (ci := 10) (v := .ref (α.1 7)) (C := RX10) (T := TX10) (N := 11) hx hb hts in_X10 hown hK hP 10 (sm_gX10 σ α) rfl 9 (by decide) k_0 (fun _ h9 => h9) rfl dX10_run_12 ?_
      refine va_get (D := D) (ci := 7) (v := .int (σ.1 22)) (C := RX7) (T := TX7) (N := 13) hx hb hts in_X7 hown hK hP 7 (sm_gX7 σ α) rfl 5 (by decide) k_1 (fun _ h9 => h9) rfl dX10_run_15 ?_
      refine lv_iconst (v := 1) hx hb dX10_run_18 (by decide) ?_
      refine lv_icmp_eq (tgt := 24) hx hb dX10_run_19 (by decide) (fun h10 => ?_) (fun h10 => ?_)
      · replace hF := hF.1 h10
        refine lv_iconst (v := 0) hx hb dX10_run_24 (by decide) ?_
        refine lv_istore_n (lv' := [(2, .int 0), (0, .ref (α.1 10)), (1, .int p1)]) hx hb dX10_run_25 rfl hl (by decide) rfl (fun ls hl => ?_)
        refine lv_iconst (v := 0) hx hb dX10_run_26 (by decide) ?_
        refine lv_istore_n (lv' := [(3, .int 0), (2, .int 0), (0, .ref (α.1 10)), (1, .int p1)]) hx hb dX10_run_27 rfl hl (by decide) rfl (fun ls hl => ?_)
        obtain ⟨n28, hF⟩ := hF
        exact B28 n28 σ p1 0 0 hF H locs ls hP hS (lv_sub hl [2, 3, 1, 0] rfl)
      · replace hF := hF.2 h10
        exact B22 σ hF H locs ls hP hS (lv_sub hl [] rfl)
theorem dX10_state_0 : decode cX10_state 0 = .ok (.aload_n 0, 1) := by decide +kernel
theorem dX10_state_1 : decode cX10_state 1 = .ok (.getfield 72, 3) := by decide +kernel
theorem dX10_state_4 : decode cX10_state 4 = .ok (.getfield 103, 3) := by decide +kernel
theorem dX10_state_7 : decode cX10_state 7 = .ok (.ireturn, 1) := by decide +kernel
def wp_X10_state : List Cond := .code yX10_state cX10_state 1 (some .int) :: (([.fieldLink RX10 72 "SteadyMachine" "runner" "LSteadyMachine$Runner;", .fieldLink RX10 103 "SteadyMachine$Runner" "state" "I"] ++ wsX100) ++ wsX70)
theorem wq_X10_state : wp_X10_state.all goodWord = true := wa_c rfl (wa_a (wa_a (by decide +kernel) uq_X10) uq_X7)
theorem wt_X10_state : GoodIn lw_tbl wp_X10_state := wm_c (List.mem_of_getElem? (i := 1096) (by decide +kernel)) rfl (wm_a (wm_a (goodIn_r _ [580, 518] (by decide +kernel) (by decide +kernel)) ut_X10) ut_X7)
theorem wi_X10_state_X10 : ∀ w ∈ wsX100, w ∈ wp_X10_state := fun w h => List.mem_cons_of_mem _ (List.mem_append_left _ (List.mem_append_right _ h))
theorem wi_X10_state_X7 : ∀ w ∈ wsX70, w ∈ wp_X10_state := fun w h => List.mem_cons_of_mem _ (List.mem_append_right _ h)
set_option maxHeartbeats 4000000 in
set_option maxRecDepth 100000 in
theorem c_X10_state (l : Launch) (D : va_G) (sz t0 : Nat) (σ : sm_S) (α : sm_A) (K : Int32 → sm_S → Prop) (hF : mp_X10_state σ K) : Met l yX10_state wp_X10_state { frames := 0, cells := 0, slots := 0, locals := 0 } (sm_P sm_wX sm_tX 37 D sz t0 σ α [.ref (α.1 10)]) (va_Qi K (sm_B sm_wX D α) (sm_a α 37 sz)) 0 0 (sm_a α 37 sz) := by
  refine Met.ofW (cc := cX10_state) (maxL := 1) (ret := (some .int)) (by decide) rfl ?_
  intro p e s m args below meth c s₁ B hml hv
  obtain ⟨rfl, hsz, hP, hK, hD0, hE⟩ := hv
  have hx := B.exec
  have hb := B.bytes
  have hr := B.returns
  have hts := atoms_spec (ws := wp_X10_state) B.pre
  have hown : s.vm.findClass RX10 = some m.cls := findClass_of_methodNamed B.named
  have hlocks := B.notSynchronized
  subst hsz
  have hD : sm_D (sm_a α 37 s.heap.size) α 37 := hD0.own
  have hA : ∀ q : Nat, s.heap.size ≤ q → sm_a α 37 s.heap.size q := fun q h => Or.inr h
  generalize hAe : sm_a α 37 s.heap.size = A at hD hA hE ⊢
  have hS : va_S A s.heap s.heap [] := va_S.rf
  have in_X10 : ∀ w ∈ wsX100, w ∈ wp_X10_state := wi_X10_state_X10
  have in_X7 : ∀ w ∈ wsX70, w ∈ wp_X10_state := wi_X10_state_X7
  have k_0 := hts (.fieldLink RX10 72 "SteadyMachine" "runner" "LSteadyMachine$Runner;") (by decide +kernel)
  have k_1 := hts (.fieldLink RX10 103 "SteadyMachine$Runner" "state" "I") (by decide +kernel)
  have hl := lv_entry ([.ref (α.1 10)]) (n := 1) (Nat.le_of_ble_eq_true rfl)
  rw [lg_entry_eq]
  generalize (lg_sl ([.ref (α.1 10)]) ++ List.replicate (1 - (lg_sl ([.ref (α.1 10)])).length) Slot.unset).toArray = ls at hl ⊢
  have hl : lv_has ls 1 [(0, .ref (α.1 10))] := hl
  unfold mp_X10_state at hF
  revert hP hS
  generalize hLo : ([] : List Loc) = locs
  suffices h9 : ∀ (H : Heap) (locs : List Loc), va_P D vwCl (sm_wX σ α) H → va_S A s.heap H locs → W p l e (headSpec wp_X10_state { frames := 0, cells := 0, slots := 0, locals := 0 }).room s m ([.ref (α.1 10)] : List Value).toArray below meth c H locs 0 0 (MQ below (va_Qi K (sm_B sm_wX D α) A) ([.ref (α.1 10)] : List Value).toArray s 0 0 A) (F0 m 0 ls []) from fun hP hS => h9 s.heap locs hP hS
  intro H locs hP hS
  refine lv_aload_n hx hb dX10_state_0 rfl (lv_at hl 0 rfl) ?_
  refine va_get (D := D) (ci := 10) (v := .ref (α.1 7)) (C := RX10) (T := TX10) (N := 11) hx hb hts in_X10 hown hK hP 10 (sm_gX10 σ α) rfl 9 (by decide) k_0 (fun _ h9 => h9) rfl dX10_state_1 ?_
  refine va_get (D := D) (ci := 7) (v := .int (σ.1 22)) (C := RX7) (T := TX7) (N := 13) hx hb hts in_X7 hown hK hP 7 (sm_gX7 σ α) rfl 5 (by decide) k_1 (fun _ h9 => h9) rfl dX10_state_4 ?_
  exact W.iret (v := (σ.1 22)) hx hb hr (fun t ht hW => ⟨⟨(σ.1 22), σ, rfl, hF, (by unfold sm_B; rw [ht]; exact hP)⟩, hS.F ht⟩) hS.2.2 dX10_state_7
theorem dX10_count_0 : decode cX10_count 0 = .ok (.aload_n 0, 1) := by decide +kernel
theorem dX10_count_1 : decode cX10_count 1 = .ok (.getfield 72, 3) := by decide +kernel
theorem dX10_count_4 : decode cX10_count 4 = .ok (.getfield 103, 3) := by decide +kernel
theorem dX10_count_7 : decode cX10_count 7 = .ok (.ifCond .eq 7, 3) := by decide +kernel
theorem dX10_count_10 : decode cX10_count 10 = .ok (.iconst 1, 1) := by decide +kernel
theorem dX10_count_11 : decode cX10_count 11 = .ok (.goto 4, 3) := by decide +kernel
theorem dX10_count_14 : decode cX10_count 14 = .ok (.iconst 0, 1) := by decide +kernel
theorem dX10_count_15 : decode cX10_count 15 = .ok (.istore_n 2, 1) := by decide +kernel
theorem dX10_count_16 : decode cX10_count 16 = .ok (.iload_n 1, 1) := by decide +kernel
theorem dX10_count_17 : decode cX10_count 17 = .ok (.tableswitch 175 0 6 #[43, 59, 76, 92, 109, 129, 152], 43) := by decide +kernel
theorem dX10_count_60 : decode cX10_count 60 = .ok (.iload_n 2, 1) := by decide +kernel
theorem dX10_count_61 : decode cX10_count 61 = .ok (.ifCond .eq 13, 3) := by decide +kernel
theorem dX10_count_64 : decode cX10_count 64 = .ok (.aload_n 0, 1) := by decide +kernel
theorem dX10_count_65 : decode cX10_count 65 = .ok (.getfield 72, 3) := by decide +kernel
theorem dX10_count_68 : decode cX10_count 68 = .ok (.getfield 155, 3) := by decide +kernel
theorem dX10_count_71 : decode cX10_count 71 = .ok (.goto 4, 3) := by decide +kernel
theorem dX10_count_74 : decode cX10_count 74 = .ok (.lconst 0, 1) := by decide +kernel
theorem dX10_count_75 : decode cX10_count 75 = .ok (.lreturn, 1) := by decide +kernel
theorem dX10_count_76 : decode cX10_count 76 = .ok (.iload_n 2, 1) := by decide +kernel
theorem dX10_count_77 : decode cX10_count 77 = .ok (.ifCond .eq 14, 3) := by decide +kernel
theorem dX10_count_80 : decode cX10_count 80 = .ok (.aload_n 0, 1) := by decide +kernel
theorem dX10_count_81 : decode cX10_count 81 = .ok (.getfield 46, 3) := by decide +kernel
theorem dX10_count_84 : decode cX10_count 84 = .ok (.getfield 159, 3) := by decide +kernel
theorem dX10_count_87 : decode cX10_count 87 = .ok (.i2l, 1) := by decide +kernel
theorem dX10_count_88 : decode cX10_count 88 = .ok (.goto 4, 3) := by decide +kernel
theorem dX10_count_91 : decode cX10_count 91 = .ok (.lconst 0, 1) := by decide +kernel
theorem dX10_count_92 : decode cX10_count 92 = .ok (.lreturn, 1) := by decide +kernel
theorem dX10_count_93 : decode cX10_count 93 = .ok (.iload_n 2, 1) := by decide +kernel
theorem dX10_count_94 : decode cX10_count 94 = .ok (.ifCond .eq 13, 3) := by decide +kernel
theorem dX10_count_97 : decode cX10_count 97 = .ok (.aload_n 0, 1) := by decide +kernel
theorem dX10_count_98 : decode cX10_count 98 = .ok (.getfield 46, 3) := by decide +kernel
theorem dX10_count_101 : decode cX10_count 101 = .ok (.getfield 162, 3) := by decide +kernel
theorem dX10_count_104 : decode cX10_count 104 = .ok (.goto 4, 3) := by decide +kernel
theorem dX10_count_107 : decode cX10_count 107 = .ok (.lconst 0, 1) := by decide +kernel
theorem dX10_count_108 : decode cX10_count 108 = .ok (.lreturn, 1) := by decide +kernel
theorem dX10_count_109 : decode cX10_count 109 = .ok (.iload_n 2, 1) := by decide +kernel
theorem dX10_count_110 : decode cX10_count 110 = .ok (.ifCond .eq 14, 3) := by decide +kernel
theorem dX10_count_113 : decode cX10_count 113 = .ok (.aload_n 0, 1) := by decide +kernel
theorem dX10_count_114 : decode cX10_count 114 = .ok (.getfield 72, 3) := by decide +kernel
theorem dX10_count_117 : decode cX10_count 117 = .ok (.getfield 165, 3) := by decide +kernel
theorem dX10_count_120 : decode cX10_count 120 = .ok (.i2l, 1) := by decide +kernel
theorem dX10_count_121 : decode cX10_count 121 = .ok (.goto 4, 3) := by decide +kernel
theorem dX10_count_124 : decode cX10_count 124 = .ok (.lconst 0, 1) := by decide +kernel
theorem dX10_count_125 : decode cX10_count 125 = .ok (.lreturn, 1) := by decide +kernel
theorem dX10_count_126 : decode cX10_count 126 = .ok (.iload_n 2, 1) := by decide +kernel
theorem dX10_count_127 : decode cX10_count 127 = .ok (.ifCond .eq 17, 3) := by decide +kernel
theorem dX10_count_130 : decode cX10_count 130 = .ok (.aload_n 0, 1) := by decide +kernel
theorem dX10_count_131 : decode cX10_count 131 = .ok (.getfield 63, 3) := by decide +kernel
theorem dX10_count_134 : decode cX10_count 134 = .ok (.getfield 168, 3) := by decide +kernel
theorem dX10_count_137 : decode cX10_count 137 = .ok (.ifCond .eq 7, 3) := by decide +kernel
theorem dX10_count_140 : decode cX10_count 140 = .ok (.lconst 1, 1) := by decide +kernel
theorem dX10_count_141 : decode cX10_count 141 = .ok (.goto 4, 3) := by decide +kernel
theorem dX10_count_144 : decode cX10_count 144 = .ok (.lconst 0, 1) := by decide +kernel
theorem dX10_count_145 : decode cX10_count 145 = .ok (.lreturn, 1) := by decide +kernel
theorem dX10_count_146 : decode cX10_count 146 = .ok (.aload_n 0, 1) := by decide +kernel
theorem dX10_count_147 : decode cX10_count 147 = .ok (.getfield 106, 3) := by decide +kernel
theorem dX10_count_150 : decode cX10_count 150 = .ok (.ifCond .eq 17, 3) := by decide +kernel
theorem dX10_count_153 : decode cX10_count 153 = .ok (.aload_n 0, 1) := by decide +kernel
theorem dX10_count_154 : decode cX10_count 154 = .ok (.getfield 16, 3) := by decide +kernel
theorem dX10_count_157 : decode cX10_count 157 = .ok (.getfield 52, 3) := by decide +kernel
theorem dX10_count_160 : decode cX10_count 160 = .ok (.getfield 171, 3) := by decide +kernel
theorem dX10_count_163 : decode cX10_count 163 = .ok (.i2l, 1) := by decide +kernel
theorem dX10_count_164 : decode cX10_count 164 = .ok (.goto 4, 3) := by decide +kernel
theorem dX10_count_167 : decode cX10_count 167 = .ok (.lconst 0, 1) := by decide +kernel
theorem dX10_count_168 : decode cX10_count 168 = .ok (.lreturn, 1) := by decide +kernel
theorem dX10_count_169 : decode cX10_count 169 = .ok (.aload_n 0, 1) := by decide +kernel
theorem dX10_count_170 : decode cX10_count 170 = .ok (.getfield 106, 3) := by decide +kernel
theorem dX10_count_173 : decode cX10_count 173 = .ok (.ifCond .eq 17, 3) := by decide +kernel
theorem dX10_count_176 : decode cX10_count 176 = .ok (.aload_n 0, 1) := by decide +kernel
theorem dX10_count_177 : decode cX10_count 177 = .ok (.getfield 16, 3) := by decide +kernel
theorem dX10_count_180 : decode cX10_count 180 = .ok (.getfield 56, 3) := by decide +kernel
theorem dX10_count_183 : decode cX10_count 183 = .ok (.getfield 176, 3) := by decide +kernel
theorem dX10_count_186 : decode cX10_count 186 = .ok (.i2l, 1) := by decide +kernel
theorem dX10_count_187 : decode cX10_count 187 = .ok (.goto 4, 3) := by decide +kernel
theorem dX10_count_190 : decode cX10_count 190 = .ok (.lconst 0, 1) := by decide +kernel
theorem dX10_count_191 : decode cX10_count 191 = .ok (.lreturn, 1) := by decide +kernel
theorem dX10_count_192 : decode cX10_count 192 = .ok (.ldc2_w 179, 3) := by decide +kernel
theorem dX10_count_195 : decode cX10_count 195 = .ok (.lreturn, 1) := by decide +kernel
def wp_X10_count : List Cond := .code yX10_count cX10_count 3 (some .long) :: ((((((([.fieldLink RX10 72 "SteadyMachine" "runner" "LSteadyMachine$Runner;", .fieldLink RX10 155 "SteadyMachine$Runner" "steps" "J", .fieldLink RX10 46 "SteadyMachine" "ports" "LSteadyMachine$Ports;", .fieldLink RX10 159 "SteadyMachine$Ports" "taken" "I", .fieldLink RX10 162 "SteadyMachine$Ports" "given" "J", .fieldLink RX10 165 "SteadyMachine$Runner" "frames" "I", .fieldLink RX10 63 "SteadyMachine" "heap" "LSteadyMachine$Heap;", .fieldLink RX10 168 "SteadyMachine$Heap" "flies" "I", .fieldLink RX10 106 "SteadyMachine" "whole" "Z", .fieldLink RX10 16 "SteadyMachine" "image" "LSteadyMachine$Image;", .fieldLink RX10 52 "SteadyMachine$Image" "classes" "LSteadyMachine$Classes;", .fieldLink RX10 171 "SteadyMachine$Classes" "many" "I", .fieldLink RX10 56 "SteadyMachine$Image" "methods" "LSteadyMachine$Methods;", .fieldLink RX10 176 "SteadyMachine$Methods" "many" "I", .constantLong RX10 179 (-1), .fieldLink RX10 103 "SteadyMachine$Runner" "state" "I"] ++ wsX00) ++ wsX10) ++ wsX100) ++ wsX20) ++ wsX40) ++ wsX50) ++ wsX70)
theorem wq_X10_count : wp_X10_count.all goodWord = true := wa_c rfl (wa_a (wa_a (wa_a (wa_a (wa_a (wa_a (wa_a (by decide +kernel) uq_X0) uq_X1) uq_X10) uq_X2) uq_X4) uq_X5) uq_X7)
theorem wt_X10_count : GoodIn lw_tbl wp_X10_count := wm_c (List.mem_of_getElem? (i := 1100) (by decide +kernel)) rfl (wm_a (wm_a (wm_a (wm_a (wm_a (wm_a (wm_a (goodIn_r _ [580, 522, 578, 425, 429, 520, 579, 468, 573, 574, 299, 174, 306, 223, 1101, 518] (by decide +kernel) (by decide +kernel)) ut_X0) ut_X1) ut_X10) ut_X2) ut_X4) ut_X5) ut_X7)
theorem wi_X10_count_X0 : ∀ w ∈ wsX00, w ∈ wp_X10_count := fun w h => List.mem_cons_of_mem _ (List.mem_append_left _ (List.mem_append_left _ (List.mem_append_left _ (List.mem_append_left _ (List.mem_append_left _ (List.mem_append_left _ (List.mem_append_right _ h)))))))
theorem wi_X10_count_X1 : ∀ w ∈ wsX10, w ∈ wp_X10_count := fun w h => List.mem_cons_of_mem _ (List.mem_append_left _ (List.mem_append_left _ (List.mem_append_left _ (List.mem_append_left _ (List.mem_append_left _ (List.mem_append_right _ h))))))
theorem wi_X10_count_X10 : ∀ w ∈ wsX100, w ∈ wp_X10_count := fun w h => List.mem_cons_of_mem _ (List.mem_append_left _ (List.mem_append_left _ (List.mem_append_left _ (List.mem_append_left _ (List.mem_append_right _ h)))))
theorem wi_X10_count_X2 : ∀ w ∈ wsX20, w ∈ wp_X10_count := fun w h => List.mem_cons_of_mem _ (List.mem_append_left _ (List.mem_append_left _ (List.mem_append_left _ (List.mem_append_right _ h))))
theorem wi_X10_count_X4 : ∀ w ∈ wsX40, w ∈ wp_X10_count := fun w h => List.mem_cons_of_mem _ (List.mem_append_left _ (List.mem_append_left _ (List.mem_append_right _ h)))
theorem wi_X10_count_X5 : ∀ w ∈ wsX50, w ∈ wp_X10_count := fun w h => List.mem_cons_of_mem _ (List.mem_append_left _ (List.mem_append_right _ h))
theorem wi_X10_count_X7 : ∀ w ∈ wsX70, w ∈ wp_X10_count := fun w h => List.mem_cons_of_mem _ (List.mem_append_right _ h)
set_option maxHeartbeats 4000000 in
set_option maxRecDepth 100000 in
theorem c_X10_count (l : Launch) (D : va_G) (sz t0 : Nat) (σ : sm_S) (α : sm_A) (p1 : Int32) (K : Int64 → sm_S → Prop) (hF : mp_X10_count σ p1 K) : Met l yX10_count wp_X10_count { frames := 0, cells := 0, slots := 0, locals := 0 } (sm_P sm_wX sm_tX 37 D sz t0 σ α [.ref (α.1 10), .int p1]) (va_Ql K (sm_B sm_wX D α) (sm_a α 37 sz)) 0 0 (sm_a α 37 sz) := by
  refine Met.ofW (cc := cX10_count) (maxL := 3) (ret := (some .long)) (by decide) rfl ?_
  intro p e s m args below meth c s₁ B hml hv
  obtain ⟨rfl, hsz, hP, hK, hD0, hE⟩ := hv
  have hx := B.exec
  have hb := B.bytes
  have hr := B.returns
  have hts := atoms_spec (ws := wp_X10_count) B.pre
  have hown : s.vm.findClass RX10 = some m.cls := findClass_of_methodNamed B.named
  have hlocks := B.notSynchronized
  subst hsz
  have hD : sm_D (sm_a α 37 s.heap.size) α 37 := hD0.own
  have hA : ∀ q : Nat, s.heap.size ≤ q → sm_a α 37 s.heap.size q := fun q h => Or.inr h
  generalize hAe : sm_a α 37 s.heap.size = A at hD hA hE ⊢
  have hS : va_S A s.heap s.heap [] := va_S.rf
  have in_X0 : ∀ w ∈ wsX00, w ∈ wp_X10_count := wi_X10_count_X0
  have in_X1 : ∀ w ∈ wsX10, w ∈ wp_X10_count := wi_X10_count_X1
  have in_X10 : ∀ w ∈ wsX100, w ∈ wp_X10_count := wi_X10_count_X10
  have in_X2 : ∀ w ∈ wsX20, w ∈ wp_X10_count := wi_X10_count_X2
  have in_X4 : ∀ w ∈ wsX40, w ∈ wp_X10_count := wi_X10_count_X4
  have in_X5 : ∀ w ∈ wsX50, w ∈ wp_X10_count := wi_X10_count_X5
  have in_X7 : ∀ w ∈ wsX70, w ∈ wp_X10_count := wi_X10_count_X7
  have k_0 := hts (.fieldLink RX10 72 "SteadyMachine" "runner" "LSteadyMachine$Runner;") (by decide +kernel)
  have k_1 := hts (.fieldLink RX10 155 "SteadyMachine$Runner" "steps" "J") (by decide +kernel)
  have k_2 := hts (.fieldLink RX10 46 "SteadyMachine" "ports" "LSteadyMachine$Ports;") (by decide +kernel)
  have k_3 := hts (.fieldLink RX10 159 "SteadyMachine$Ports" "taken" "I") (by decide +kernel)
  have k_4 := hts (.fieldLink RX10 162 "SteadyMachine$Ports" "given" "J") (by decide +kernel)
  have k_5 := hts (.fieldLink RX10 165 "SteadyMachine$Runner" "frames" "I") (by decide +kernel)
  have k_6 := hts (.fieldLink RX10 63 "SteadyMachine" "heap" "LSteadyMachine$Heap;") (by decide +kernel)
  have k_7 := hts (.fieldLink RX10 168 "SteadyMachine$Heap" "flies" "I") (by decide +kernel)
  have k_8 := hts (.fieldLink RX10 106 "SteadyMachine" "whole" "Z") (by decide +kernel)
  have k_9 := hts (.fieldLink RX10 16 "SteadyMachine" "image" "LSteadyMachine$Image;") (by decide +kernel)
  have k_10 := hts (.fieldLink RX10 52 "SteadyMachine$Image" "classes" "LSteadyMachine$Classes;") (by decide +kernel)
  have k_11 := hts (.fieldLink RX10 171 "SteadyMachine$Classes" "many" "I") (by decide +kernel)
  have k_12 := hts (.fieldLink RX10 56 "SteadyMachine$Image" "methods" "LSteadyMachine$Methods;") (by decide +kernel)
  have k_13 := hts (.fieldLink RX10 176 "SteadyMachine$Methods" "many" "I") (by decide +kernel)
  have k_14 := hts (.constantLong RX10 179 (-1)) (by decide +kernel)
  have k_15 := hts (.fieldLink RX10 103 "SteadyMachine$Runner" "state" "I") (by decide +kernel)
  have hl := lv_entry ([.ref (α.1 10), .int p1]) (n := 3) (Nat.le_of_ble_eq_true rfl)
  rw [lg_entry_eq]
  generalize (lg_sl ([.ref (α.1 10), .int p1]) ++ List.replicate (3 - (lg_sl ([.ref (α.1 10), .int p1])).length) Slot.unset).toArray = ls at hl ⊢
  have hl : lv_has ls 3 [(0, .ref (α.1 10)), (1, .int p1)] := hl
  have B191 : ∀ (σ : sm_S) (y0 : Int64), mp_X10_count_191 K σ y0 → sm_J p l e (headSpec wp_X10_count { frames := 0, cells := 0, slots := 0, locals := 0 }).room s m ([.ref (α.1 10), .int p1] : List Value).toArray below meth c (MQ below (va_Ql K (sm_B sm_wX D α) A) ([.ref (α.1 10), .int p1] : List Value).toArray s 0 0 A) D A 3 (sm_wX σ α) 191 [] [.long y0] := by
    intro σ y0 hF H locs ls hP hS hl
    unfold mp_X10_count_191 at hF
    exact W.lret (v := y0) hx hb hr (fun t ht hW => ⟨⟨y0, σ, rfl, hF, (by unfold sm_B; rw [ht]; exact hP)⟩, hS.F ht⟩) hS.2.2 dX10_count_191
  have B168 : ∀ (σ : sm_S) (y0 : Int64), mp_X10_count_168 K σ y0 → sm_J p l e (headSpec wp_X10_count { frames := 0, cells := 0, slots := 0, locals := 0 }).room s m ([.ref (α.1 10), .int p1] : List Value).toArray below meth c (MQ below (va_Ql K (sm_B sm_wX D α) A) ([.ref (α.1 10), .int p1] : List Value).toArray s 0 0 A) D A 3 (sm_wX σ α) 168 [] [.long y0] := by
    intro σ y0 hF H locs ls hP hS hl
    unfold mp_X10_count_168 at hF
    exact W.lret (v := y0) hx hb hr (fun t ht hW => ⟨⟨y0, σ, rfl, hF, (by unfold sm_B; rw [ht]; exact hP)⟩, hS.F ht⟩) hS.2.2 dX10_count_168
  have B145 : ∀ (σ : sm_S) (y0 : Int64), mp_X10_count_145 K σ y0 → sm_J p l e (headSpec wp_X10_count { frames := 0, cells := 0, slots := 0, locals := 0 }).room s m ([.ref (α.1 10), .int p1] : List Value).toArray below meth c (MQ below (va_Ql K (sm_B sm_wX D α) A) ([.ref (α.1 10), .int p1] : List Value).toArray s 0 0 A) D A 3 (sm_wX σ α) 145 [] [.long y0] := by
    intro σ y0 hF H locs ls hP hS hl
    unfold mp_X10_count_145 at hF
    exact W.lret (v := y0) hx hb hr (fun t ht hW => ⟨⟨y0, σ, rfl, hF, (by unfold sm_B; rw [ht]; exact hP)⟩, hS.F ht⟩) hS.2.2 dX10_count_145
  have B144 : ∀ (σ : sm_S), mp_X10_count_144 K σ → sm_J p l e (headSpec wp_X10_count { frames := 0, cells := 0, slots := 0, locals := 0 }).room s m ([.ref (α.1 10), .int p1] : List Value).toArray below meth c (MQ below (va_Ql K (sm_B sm_wX D α) A) ([.ref (α.1 10), .int p1] : List Value).toArray s 0 0 A) D A 3 (sm_wX σ α) 144 [] [] := by
    intro σ hF H locs ls hP hS hl
    unfold mp_X10_count_144 at hF
    refine lv_lconst (v := 0) hx hb dX10_count_144 (by decide) ?_
    exact B145 σ 0 hF H locs ls hP hS (lv_sub hl [] rfl)
  have B125 : ∀ (σ : sm_S) (y0 : Int64), mp_X10_count_125 K σ y0 → sm_J p l e (headSpec wp_X10_count { frames := 0, cells := 0, slots := 0, locals := 0 }).room s m ([.ref (α.1 10), .int p1] : List Value).toArray below meth c (MQ below (va_Ql K (sm_B sm_wX D α) A) ([.ref (α.1 10), .int p1] : List Value).toArray s 0 0 A) D A 3 (sm_wX σ α) 125 [] [.long y0] := by
    intro σ y0 hF H locs ls hP hS hl
    unfold mp_X10_count_125 at hF
    exact W.lret (v := y0) hx hb hr (fun t ht hW => ⟨⟨y0, σ, rfl, hF, (by unfold sm_B; rw [ht]; exact hP)⟩, hS.F ht⟩) hS.2.2 dX10_count_125
  have B108 : ∀ (σ : sm_S) (y0 : Int64), mp_X10_count_108 K σ y0 → sm_J p l e (headSpec wp_X10_count { frames := 0, cells := 0, slots := 0, locals := 0 }).room s m ([.ref (α.1 10), .int p1] : List Value).toArray below meth c (MQ below (va_Ql K (sm_B sm_wX D α) A) ([.ref (α.1 10), .int p1] : List Value).toArray s 0 0 A) D A 3 (sm_wX σ α) 108 [] [.long y0] := by
    intro σ y0 hF H locs ls hP hS hl
    unfold mp_X10_count_108 at hF
    exact W.lret (v := y0) hx hb hr (fun t ht hW => ⟨⟨y0, σ, rfl, hF, (by unfold sm_B; rw [ht]; exact hP)⟩, hS.F ht⟩) hS.2.2 dX10_count_108
  have B92 : ∀ (σ : sm_S) (y0 : Int64), mp_X10_count_92 K σ y0 → sm_J p l e (headSpec wp_X10_count { frames := 0, cells := 0, slots := 0, locals := 0 }).room s m ([.ref (α.1 10), .int p1] : List Value).toArray below meth c (MQ below (va_Ql K (sm_B sm_wX D α) A) ([.ref (α.1 10), .int p1] : List Value).toArray s 0 0 A) D A 3 (sm_wX σ α) 92 [] [.long y0] := by
    intro σ y0 hF H locs ls hP hS hl
    unfold mp_X10_count_92 at hF
    exact W.lret (v := y0) hx hb hr (fun t ht hW => ⟨⟨y0, σ, rfl, hF, (by unfold sm_B; rw [ht]; exact hP)⟩, hS.F ht⟩) hS.2.2 dX10_count_92
  have B75 : ∀ (σ : sm_S) (y0 : Int64), mp_X10_count_75 K σ y0 → sm_J p l e (headSpec wp_X10_count { frames := 0, cells := 0, slots := 0, locals := 0 }).room s m ([.ref (α.1 10), .int p1] : List Value).toArray below meth c (MQ below (va_Ql K (sm_B sm_wX D α) A) ([.ref (α.1 10), .int p1] : List Value).toArray s 0 0 A) D A 3 (sm_wX σ α) 75 [] [.long y0] := by
    intro σ y0 hF H locs ls hP hS hl
    unfold mp_X10_count_75 at hF
    exact W.lret (v := y0) hx hb hr (fun t ht hW => ⟨⟨y0, σ, rfl, hF, (by unfold sm_B; rw [ht]; exact hP)⟩, hS.F ht⟩) hS.2.2 dX10_count_75
  have B15 : ∀ (σ : sm_S) (x1 : Int32) (y0 : Int32), mp_X10_count_15 K σ x1 y0 → sm_J p l e (headSpec wp_X10_count { frames := 0, cells := 0, slots := 0, locals := 0 }).room s m ([.ref (α.1 10), .int p1] : List Value).toArray below meth c (MQ below (va_Ql K (sm_B sm_wX D α) A) ([.ref (α.1 10), .int p1] : List Value).toArray s 0 0 A) D A 3 (sm_wX σ α) 15 [(0, .ref (α.1 10)), (1, .int x1)] [.int y0] := by
    intro σ x1 y0 hF H locs ls hP hS hl
    unfold mp_X10_count_15 at hF
    refine lv_istore_n (lv' := [(2, .int y0), (0, .ref (α.1 10)), (1, .int x1)]) hx hb dX10_count_15 rfl hl (by decide) rfl (fun ls hl => ?_)
    refine lv_iload_n hx hb dX10_count_16 rfl (lv_at hl 2 rfl) ?_
    by_cases h1 : x1 = 0
    · refine lv_tableIn (tgt := 60) hx hb dX10_count_17 (by rw [h1]; decide) (by rw [h1]; decide) (by rw [h1]; rfl) (by decide) ?_
      replace hF := hF.1 h1
      refine lv_iload_n hx hb dX10_count_60 rfl (lv_at hl 0 rfl) ?_
      refine lv_if_eq (tgt := 74) hx hb dX10_count_61 (by decide) (fun h2 => ?_) (fun h2 => ?_)
      · replace hF := hF.1 h2
        refine lv_lconst (v := 0) hx hb dX10_count_74 (by decide) ?_
        exact B75 σ 0 hF H locs ls hP hS (lv_sub hl [] rfl)
      · replace hF := hF.2 h2
        refine lv_aload_n hx hb dX10_count_64 rfl (lv_at hl 1 rfl) ?_
        refine va_get (D := D) (ci := 10) (v := .ref (α.1 7)) (C := RX10) (T := TX10) (N := 11) hx hb hts in_X10 hown hK hP 10 (sm_gX10 σ α) rfl 9 (by decide) k_0 (fun _ h9 => h9) rfl dX10_count_65 ?_
        refine va_get (D := D) (ci := 7) (v := .long (σ.2.1 1)) (C := RX7) (T := TX7) (N := 13) hx hb hts in_X7 hown hK hP 7 (sm_gX7 σ α) rfl 7 (by decide) k_1 (fun _ h9 => h9) rfl dX10_count_68 ?_
        refine lv_goto (tgt := 75) hx hb dX10_count_71 (by decide) ?_
        exact B75 σ (σ.2.1 1) hF H locs ls hP hS (lv_sub hl [] rfl)
    by_cases h3 : x1 = 1
    · refine lv_tableIn (tgt := 76) hx hb dX10_count_17 (by rw [h3]; decide) (by rw [h3]; decide) (by rw [h3]; rfl) (by decide) ?_
      replace hF := hF.2.1 h3
      refine lv_iload_n hx hb dX10_count_76 rfl (lv_at hl 0 rfl) ?_
      refine lv_if_eq (tgt := 91) hx hb dX10_count_77 (by decide) (fun h4 => ?_) (fun h4 => ?_)
      · replace hF := hF.1 h4
        refine lv_lconst (v := 0) hx hb dX10_count_91 (by decide) ?_
        exact B92 σ 0 hF H locs ls hP hS (lv_sub hl [] rfl)
      · replace hF := hF.2 h4
        refine lv_aload_n hx hb dX10_count_80 rfl (lv_at hl 1 rfl) ?_
        refine va_get (D := D) (ci := 10) (v := .ref (α.1 5)) (C := RX10) (T := TX10) (N := 11) hx hb hts in_X10 hown hK hP 10 (sm_gX10 σ α) rfl 7 (by decide) k_2 (fun _ h9 => h9) rfl dX10_count_81 ?_
        refine va_get (D := D) (ci := 5) (v := .int (σ.1 19)) (C := RX5) (T := TX5) (N := 5) hx hb hts in_X5 hown hK hP 5 (sm_gX5 σ α) rfl 2 (by decide) k_3 (fun _ h9 => h9) rfl dX10_count_84 ?_
        refine lv_i2l hx hb dX10_count_87 rfl ?_
        refine lv_goto (tgt := 92) hx hb dX10_count_88 (by decide) ?_
        exact B92 σ ((σ.1 19).toInt64) hF H locs ls hP hS (lv_sub hl [] rfl)
    by_cases h5 : x1 = 2
    · refine lv_tableIn (tgt := 93) hx hb dX10_count_17 (by rw [h5]; decide) (by rw [h5]; decide) (by rw [h5]; rfl) (by decide) ?_
      replace hF := hF.2.2.1 h5
      refine lv_iload_n hx hb dX10_count_93 rfl (lv_at hl 0 rfl) ?_
      refine lv_if_eq (tgt := 107) hx hb dX10_count_94 (by decide) (fun h6 => ?_) (fun h6 => ?_)
      · replace hF := hF.1 h6
        refine lv_lconst (v := 0) hx hb dX10_count_107 (by decide) ?_
        exact B108 σ 0 hF H locs ls hP hS (lv_sub hl [] rfl)
      · replace hF := hF.2 h6
        refine lv_aload_n hx hb dX10_count_97 rfl (lv_at hl 1 rfl) ?_
        refine va_get (D := D) (ci := 10) (v := .ref (α.1 5)) (C := RX10) (T := TX10) (N := 11) hx hb hts in_X10 hown hK hP 10 (sm_gX10 σ α) rfl 7 (by decide) k_2 (fun _ h9 => h9) rfl dX10_count_98 ?_
        refine va_get (D := D) (ci := 5) (v := .long (σ.2.1 0)) (C := RX5) (T := TX5) (N := 5) hx hb hts in_X5 hown hK hP 5 (sm_gX5 σ α) rfl 4 (by decide) k_4 (fun _ h9 => h9) rfl dX10_count_101 ?_
        refine lv_goto (tgt := 108) hx hb dX10_count_104 (by decide) ?_
        exact B108 σ (σ.2.1 0) hF H locs ls hP hS (lv_sub hl [] rfl)
    by_cases h7 : x1 = 3
    · refine lv_tableIn (tgt := 109) hx hb dX10_count_17 (by rw [h7]; decide) (by rw [h7]; decide) (by rw [h7]; rfl) (by decide) ?_
      replace hF := hF.2.2.2.1 h7
      refine lv_iload_n hx hb dX10_count_109 rfl (lv_at hl 0 rfl) ?_
      refine lv_if_eq (tgt := 124) hx hb dX10_count_110 (by decide) (fun h8 => ?_) (fun h8 => ?_)
      · replace hF := hF.1 h8
        refine lv_lconst (v := 0) hx hb dX10_count_124 (by decide) ?_
        exact B125 σ 0 hF H locs ls hP hS (lv_sub hl [] rfl)
      · replace hF := hF.2 h8
        refine lv_aload_n hx hb dX10_count_113 rfl (lv_at hl 1 rfl) ?_
        refine va_get (D := D) (ci := 10) (v := .ref (α.1 7)) (C := RX10) (T := TX10) (N := 11) hx hb hts in_X10 hown hK hP 10 (sm_gX10 σ α) rfl 9 (by decide) k_0 (fun _ h9 => h9) rfl dX10_count_114 ?_
        refine va_get (D := D) (ci := 7) (v := .int (σ.1 23)) (C := RX7) (T := TX7) (N := 13) hx hb hts in_X7 hown hK hP 7 (sm_gX7 σ α) rfl 6 (by decide) k_5 (fun _ h9 => h9) rfl dX10_count_117 ?_
        refine lv_i2l hx hb dX10_count_120 rfl ?_
        refine lv_goto (tgt := 125) hx hb dX10_count_121 (by decide) ?_
        exact B125 σ ((σ.1 23).toInt64) hF H locs ls hP hS (lv_sub hl [] rfl)
    by_cases h9 : x1 = 4
    · refine lv_tableIn (tgt := 126) hx hb dX10_count_17 (by rw [h9]; decide) (by rw [h9]; decide) (by rw [h9]; rfl) (by decide) ?_
      replace hF := hF.2.2.2.2.1 h9
      refine lv_iload_n hx hb dX10_count_126 rfl (lv_at hl 0 rfl) ?_
      refine lv_if_eq (tgt := 144) hx hb dX10_count_127 (by decide) (fun h10 => ?_) (fun h10 => ?_)
      · replace hF := hF.1 h10
        exact B144 σ hF H locs ls hP hS (lv_sub hl [] rfl)
      · replace hF := hF.2 h10
        refine lv_aload_n hx hb dX10_count_130 rfl (lv_at hl 1 rfl) ?_
        refine va_get (D := D) (ci := 10) (v := .ref (α.1 1)) (C := RX10) (T := TX10) (N := 11) hx hb hts in_X10 hown hK hP 10 (sm_gX10 σ α) rfl 8 (by decide) k_6 (fun _ h9 => h9) rfl dX10_count_131 ?_
        refine va_get (D := D) (ci := 1) (v := .int (σ.1 11)) (C := RX1) (T := TX1) (N := 16) hx hb hts in_X1 hown hK hP 1 (sm_gX1 σ α) rfl 13 (by decide) k_7 (fun _ h9 => h9) rfl dX10_count_134 ?_
        refine lv_if_eq (tgt := 144) hx hb dX10_count_137 (by decide) (fun h11 => ?_) (fun h11 => ?_)
        · replace hF := hF.1 h11
          exact B144 σ hF H locs ls hP hS (lv_sub hl [] rfl)
        · replace hF := hF.2 h11
          refine lv_lconst (v := 1) hx hb dX10_count_140 (by decide) ?_
          refine lv_goto (tgt := 145) hx hb dX10_count_141 (by decide) ?_
          exact B145 σ 1 hF H locs ls hP hS (lv_sub hl [] rfl)
    by_cases h12 : x1 = 5
    · refine lv_tableIn (tgt := 146) hx hb dX10_count_17 (by rw [h12]; decide) (by rw [h12]; decide) (by rw [h12]; rfl) (by decide) ?_
      replace hF := hF.2.2.2.2.2.1 h12
      refine lv_aload_n hx hb dX10_count_146 rfl (lv_at hl 1 rfl) ?_
      refine va_get (D := D) (ci := 10) (v := .int (σ.1 36)) (C := RX10) (T := TX10) (N := 11) hx hb hts in_X10 hown hK hP 10 (sm_gX10 σ α) rfl 2 (by decide) k_8 (fun _ h9 => h9) rfl dX10_count_147 ?_
      refine lv_if_eq (tgt := 167) hx hb dX10_count_150 (by decide) (fun h13 => ?_) (fun h13 => ?_)
      · replace hF := hF.1 h13
        refine lv_lconst (v := 0) hx hb dX10_count_167 (by decide) ?_
        exact B168 σ 0 hF H locs ls hP hS (lv_sub hl [] rfl)
      · replace hF := hF.2 h13
        refine lv_aload_n hx hb dX10_count_153 rfl (lv_at hl 1 rfl) ?_
        refine va_get (D := D) (ci := 10) (v := .ref (α.1 2)) (C := RX10) (T := TX10) (N := 11) hx hb hts in_X10 hown hK hP 10 (sm_gX10 σ α) rfl 3 (by decide) k_9 (fun _ h9 => h9) rfl dX10_count_154 ?_
        refine va_get (D := D) (ci := 2) (v := .ref (α.1 0)) (C := RX2) (T := TX2) (N := 6) hx hb hts in_X2 hown hK hP 2 (sm_gX2 σ α) rfl 0 (by decide) k_10 (fun _ h9 => h9) rfl dX10_count_157 ?_
        refine va_get (D := D) (ci := 0) (v := .int (σ.1 0)) (C := RX0) (T := TX0) (N := 7) hx hb hts in_X0 hown hK hP 0 (sm_gX0 σ α) rfl 0 (by decide) k_11 (fun _ h9 => h9) rfl dX10_count_160 ?_
        refine lv_i2l hx hb dX10_count_163 rfl ?_
        refine lv_goto (tgt := 168) hx hb dX10_count_164 (by decide) ?_
        exact B168 σ ((σ.1 0).toInt64) hF H locs ls hP hS (lv_sub hl [] rfl)
    by_cases h14 : x1 = 6
    · refine lv_tableIn (tgt := 169) hx hb dX10_count_17 (by rw [h14]; decide) (by rw [h14]; decide) (by rw [h14]; rfl) (by decide) ?_
      replace hF := hF.2.2.2.2.2.2.1 h14
      refine lv_aload_n hx hb dX10_count_169 rfl (lv_at hl 1 rfl) ?_
      refine va_get (D := D) (ci := 10) (v := .int (σ.1 36)) (C := RX10) (T := TX10) (N := 11) hx hb hts in_X10 hown hK hP 10 (sm_gX10 σ α) rfl 2 (by decide) k_8 (fun _ h9 => h9) rfl dX10_count_170 ?_
      refine lv_if_eq (tgt := 190) hx hb dX10_count_173 (by decide) (fun h15 => ?_) (fun h15 => ?_)
      · replace hF := hF.1 h15
        refine lv_lconst (v := 0) hx hb dX10_count_190 (by decide) ?_
        exact B191 σ 0 hF H locs ls hP hS (lv_sub hl [] rfl)
      · replace hF := hF.2 h15
        refine lv_aload_n hx hb dX10_count_176 rfl (lv_at hl 1 rfl) ?_
        refine va_get (D := D) (ci := 10) (v := .ref (α.1 2)) (C := RX10) (T := TX10) (N := 11) hx hb hts in_X10 hown hK hP 10 (sm_gX10 σ α) rfl 3 (by decide) k_9 (fun _ h9 => h9) rfl dX10_count_177 ?_
        refine va_get (D := D) (ci := 2) (v := .ref (α.1 4)) (C := RX2) (T := TX2) (N := 6) hx hb hts in_X2 hown hK hP 2 (sm_gX2 σ α) rfl 1 (by decide) k_12 (fun _ h9 => h9) rfl dX10_count_180 ?_
        refine va_get (D := D) (ci := 4) (v := .int (σ.1 16)) (C := RX4) (T := TX4) (N := 12) hx hb hts in_X4 hown hK hP 4 (sm_gX4 σ α) rfl 0 (by decide) k_13 (fun _ h9 => h9) rfl dX10_count_183 ?_
        refine lv_i2l hx hb dX10_count_186 rfl ?_
        refine lv_goto (tgt := 191) hx hb dX10_count_187 (by decide) ?_
        exact B191 σ ((σ.1 16).toInt64) hF H locs ls hP hS (lv_sub hl [] rfl)
    refine lv_tableOut (tgt := 192) hx hb dX10_count_17 (by have q0 := lv_neT h1 (show Int32.toInt 0 = 0 by decide); have q1 := lv_neT h3 (show Int32.toInt 1 = 1 by decide); have q2 := lv_neT h5 (show Int32.toInt 2 = 2 by decide); have q3 := lv_neT h7 (show Int32.toInt 3 = 3 by decide); have q4 := lv_neT h9 (show Int32.toInt 4 = 4 by decide); have q5 := lv_neT h12 (show Int32.toInt 5 = 5 by decide); have q6 := lv_neT h14 (show Int32.toInt 6 = 6 by decide); omega) (by decide) ?_
    replace hF := hF.2.2.2.2.2.2.2 h1 h3 h5 h7 h9 h12 h14
    refine lv_ldc2 (v := -1) hx hb hown k_14 dX10_count_192 ?_
    exact W.lret (v := (-1)) hx hb hr (fun t ht hW => ⟨⟨(-1), σ, rfl, hF, (by unfold sm_B; rw [ht]; exact hP)⟩, hS.F ht⟩) hS.2.2 dX10_count_195
  unfold mp_X10_count at hF
  revert hP hS
  generalize hLo : ([] : List Loc) = locs
  suffices h9 : ∀ (H : Heap) (locs : List Loc), va_P D vwCl (sm_wX σ α) H → va_S A s.heap H locs → W p l e (headSpec wp_X10_count { frames := 0, cells := 0, slots := 0, locals := 0 }).room s m ([.ref (α.1 10), .int p1] : List Value).toArray below meth c H locs 0 0 (MQ below (va_Ql K (sm_B sm_wX D α) A) ([.ref (α.1 10), .int p1] : List Value).toArray s 0 0 A) (F0 m 0 ls []) from fun hP hS => h9 s.heap locs hP hS
  intro H locs hP hS
  refine lv_aload_n hx hb dX10_count_0 rfl (lv_at hl 0 rfl) ?_
  refine va_get (D := D) (ci := 10) (v := .ref (α.1 7)) (C := RX10) (T := TX10) (N := 11) hx hb hts in_X10 hown hK hP 10 (sm_gX10 σ α) rfl 9 (by decide) k_0 (fun _ h9 => h9) rfl dX10_count_1 ?_
  refine va_get (D := D) (ci := 7) (v := .int (σ.1 22)) (C := RX7) (T := TX7) (N := 13) hx hb hts in_X7 hown hK hP 7 (sm_gX7 σ α) rfl 5 (by decide) k_15 (fun _ h9 => h9) rfl dX10_count_4 ?_
  refine lv_if_eq (tgt := 14) hx hb dX10_count_7 (by decide) (fun h16 => ?_) (fun h16 => ?_)
  · replace hF := hF.1 h16
    refine lv_iconst (v := 0) hx hb dX10_count_14 (by decide) ?_
    exact B15 σ p1 0 hF H locs ls hP hS (lv_sub hl [0, 1] rfl)
  · replace hF := hF.2 h16
    refine lv_iconst (v := 1) hx hb dX10_count_10 (by decide) ?_
    refine lv_goto (tgt := 15) hx hb dX10_count_11 (by decide) ?_
    exact B15 σ p1 1 hF H locs ls hP hS (lv_sub hl [0, 1] rfl)
theorem dX10_out_0 : decode cX10_out 0 = .ok (.aload_n 0, 1) := by decide +kernel
theorem dX10_out_1 : decode cX10_out 1 = .ok (.getfield 72, 3) := by decide +kernel
theorem dX10_out_4 : decode cX10_out 4 = .ok (.getfield 103, 3) := by decide +kernel
theorem dX10_out_7 : decode cX10_out 7 = .ok (.ifCond .eq 31, 3) := by decide +kernel
theorem dX10_out_10 : decode cX10_out 10 = .ok (.iload_n 1, 1) := by decide +kernel
theorem dX10_out_11 : decode cX10_out 11 = .ok (.ifCond .lt 27, 3) := by decide +kernel
theorem dX10_out_14 : decode cX10_out 14 = .ok (.iload_n 1, 1) := by decide +kernel
theorem dX10_out_15 : decode cX10_out 15 = .ok (.sipush 1000, 3) := by decide +kernel
theorem dX10_out_18 : decode cX10_out 18 = .ok (.if_icmp .ge 20, 3) := by decide +kernel
theorem dX10_out_21 : decode cX10_out 21 = .ok (.iload_n 1, 1) := by decide +kernel
theorem dX10_out_22 : decode cX10_out 22 = .ok (.i2l, 1) := by decide +kernel
theorem dX10_out_23 : decode cX10_out 23 = .ok (.aload_n 0, 1) := by decide +kernel
theorem dX10_out_24 : decode cX10_out 24 = .ok (.getfield 46, 3) := by decide +kernel
theorem dX10_out_27 : decode cX10_out 27 = .ok (.getfield 162, 3) := by decide +kernel
theorem dX10_out_30 : decode cX10_out 30 = .ok (.lcmp, 1) := by decide +kernel
theorem dX10_out_31 : decode cX10_out 31 = .ok (.ifCond .ge 7, 3) := by decide +kernel
theorem dX10_out_34 : decode cX10_out 34 = .ok (.iconst 1, 1) := by decide +kernel
theorem dX10_out_35 : decode cX10_out 35 = .ok (.goto 4, 3) := by decide +kernel
theorem dX10_out_38 : decode cX10_out 38 = .ok (.iconst 0, 1) := by decide +kernel
theorem dX10_out_39 : decode cX10_out 39 = .ok (.istore_n 2, 1) := by decide +kernel
theorem dX10_out_40 : decode cX10_out 40 = .ok (.iload_n 2, 1) := by decide +kernel
theorem dX10_out_41 : decode cX10_out 41 = .ok (.ifCond .eq 15, 3) := by decide +kernel
theorem dX10_out_44 : decode cX10_out 44 = .ok (.aload_n 0, 1) := by decide +kernel
theorem dX10_out_45 : decode cX10_out 45 = .ok (.getfield 46, 3) := by decide +kernel
theorem dX10_out_48 : decode cX10_out 48 = .ok (.getfield 181, 3) := by decide +kernel
theorem dX10_out_51 : decode cX10_out 51 = .ok (.iload_n 1, 1) := by decide +kernel
theorem dX10_out_52 : decode cX10_out 52 = .ok (.iaload, 1) := by decide +kernel
theorem dX10_out_53 : decode cX10_out 53 = .ok (.goto 4, 3) := by decide +kernel
theorem dX10_out_56 : decode cX10_out 56 = .ok (.iconst 0, 1) := by decide +kernel
theorem dX10_out_57 : decode cX10_out 57 = .ok (.ireturn, 1) := by decide +kernel
def wp_X10_out : List Cond := .code yX10_out cX10_out 3 (some .int) :: ((([.fieldLink RX10 46 "SteadyMachine" "ports" "LSteadyMachine$Ports;", .fieldLink RX10 181 "SteadyMachine$Ports" "outs" "[I", .fieldLink RX10 72 "SteadyMachine" "runner" "LSteadyMachine$Runner;", .fieldLink RX10 103 "SteadyMachine$Runner" "state" "I", .fieldLink RX10 162 "SteadyMachine$Ports" "given" "J"] ++ wsX100) ++ wsX50) ++ wsX70)
theorem wq_X10_out : wp_X10_out.all goodWord = true := wa_c rfl (wa_a (wa_a (wa_a (by decide +kernel) uq_X10) uq_X5) uq_X7)
theorem wt_X10_out : GoodIn lw_tbl wp_X10_out := wm_c (List.mem_of_getElem? (i := 1105) (by decide +kernel)) rfl (wm_a (wm_a (wm_a (goodIn_r _ [578, 427, 580, 518, 429] (by decide +kernel) (by decide +kernel)) ut_X10) ut_X5) ut_X7)
theorem wi_X10_out_X10 : ∀ w ∈ wsX100, w ∈ wp_X10_out := fun w h => List.mem_cons_of_mem _ (List.mem_append_left _ (List.mem_append_left _ (List.mem_append_right _ h)))
theorem wi_X10_out_X5 : ∀ w ∈ wsX50, w ∈ wp_X10_out := fun w h => List.mem_cons_of_mem _ (List.mem_append_left _ (List.mem_append_right _ h))
theorem wi_X10_out_X7 : ∀ w ∈ wsX70, w ∈ wp_X10_out := fun w h => List.mem_cons_of_mem _ (List.mem_append_right _ h)
set_option maxHeartbeats 4000000 in
set_option maxRecDepth 100000 in
theorem c_X10_out (l : Launch) (D : va_G) (sz t0 : Nat) (σ : sm_S) (α : sm_A) (p1 : Int32) (K : Int32 → sm_S → Prop) (hF : mp_X10_out σ p1 K) : Met l yX10_out wp_X10_out { frames := 0, cells := 0, slots := 0, locals := 0 } (sm_P sm_wX sm_tX 37 D sz t0 σ α [.ref (α.1 10), .int p1]) (va_Qi K (sm_B sm_wX D α) (sm_a α 37 sz)) 0 0 (sm_a α 37 sz) := by
  refine Met.ofW (cc := cX10_out) (maxL := 3) (ret := (some .int)) (by decide) rfl ?_
  intro p e s m args below meth c s₁ B hml hv
  obtain ⟨rfl, hsz, hP, hK, hD0, hE⟩ := hv
  have hx := B.exec
  have hb := B.bytes
  have hr := B.returns
  have hts := atoms_spec (ws := wp_X10_out) B.pre
  have hown : s.vm.findClass RX10 = some m.cls := findClass_of_methodNamed B.named
  have hlocks := B.notSynchronized
  subst hsz
  have hD : sm_D (sm_a α 37 s.heap.size) α 37 := hD0.own
  have hA : ∀ q : Nat, s.heap.size ≤ q → sm_a α 37 s.heap.size q := fun q h => Or.inr h
  generalize hAe : sm_a α 37 s.heap.size = A at hD hA hE ⊢
  have hS : va_S A s.heap s.heap [] := va_S.rf
  have in_X10 : ∀ w ∈ wsX100, w ∈ wp_X10_out := wi_X10_out_X10
  have in_X5 : ∀ w ∈ wsX50, w ∈ wp_X10_out := wi_X10_out_X5
  have in_X7 : ∀ w ∈ wsX70, w ∈ wp_X10_out := wi_X10_out_X7
  have k_0 := hts (.fieldLink RX10 46 "SteadyMachine" "ports" "LSteadyMachine$Ports;") (by decide +kernel)
  have k_1 := hts (.fieldLink RX10 181 "SteadyMachine$Ports" "outs" "[I") (by decide +kernel)
  have k_2 := hts (.fieldLink RX10 72 "SteadyMachine" "runner" "LSteadyMachine$Runner;") (by decide +kernel)
  have k_3 := hts (.fieldLink RX10 103 "SteadyMachine$Runner" "state" "I") (by decide +kernel)
  have k_4 := hts (.fieldLink RX10 162 "SteadyMachine$Ports" "given" "J") (by decide +kernel)
  have hl := lv_entry ([.ref (α.1 10), .int p1]) (n := 3) (Nat.le_of_ble_eq_true rfl)
  rw [lg_entry_eq]
  generalize (lg_sl ([.ref (α.1 10), .int p1]) ++ List.replicate (3 - (lg_sl ([.ref (α.1 10), .int p1])).length) Slot.unset).toArray = ls at hl ⊢
  have hl : lv_has ls 3 [(0, .ref (α.1 10)), (1, .int p1)] := hl
  have B57 : ∀ (σ : sm_S) (y0 : Int32), mp_X10_out_57 K σ y0 → sm_J p l e (headSpec wp_X10_out { frames := 0, cells := 0, slots := 0, locals := 0 }).room s m ([.ref (α.1 10), .int p1] : List Value).toArray below meth c (MQ below (va_Qi K (sm_B sm_wX D α) A) ([.ref (α.1 10), .int p1] : List Value).toArray s 0 0 A) D A 3 (sm_wX σ α) 57 [] [.int y0] := by
    intro σ y0 hF H locs ls hP hS hl
    unfold mp_X10_out_57 at hF
    exact W.iret (v := y0) hx hb hr (fun t ht hW => ⟨⟨y0, σ, rfl, hF, (by unfold sm_B; rw [ht]; exact hP)⟩, hS.F ht⟩) hS.2.2 dX10_out_57
  have B39 : ∀ (σ : sm_S) (x1 : Int32) (y0 : Int32), mp_X10_out_39 K σ x1 y0 → sm_J p l e (headSpec wp_X10_out { frames := 0, cells := 0, slots := 0, locals := 0 }).room s m ([.ref (α.1 10), .int p1] : List Value).toArray below meth c (MQ below (va_Qi K (sm_B sm_wX D α) A) ([.ref (α.1 10), .int p1] : List Value).toArray s 0 0 A) D A 3 (sm_wX σ α) 39 [(0, .ref (α.1 10)), (1, .int x1)] [.int y0] := by
    intro σ x1 y0 hF H locs ls hP hS hl
    unfold mp_X10_out_39 at hF
    refine lv_istore_n (lv' := [(2, .int y0), (0, .ref (α.1 10)), (1, .int x1)]) hx hb dX10_out_39 rfl hl (by decide) rfl (fun ls hl => ?_)
    refine lv_iload_n hx hb dX10_out_40 rfl (lv_at hl 0 rfl) ?_
    refine lv_if_eq (tgt := 56) hx hb dX10_out_41 (by decide) (fun h1 => ?_) (fun h1 => ?_)
    · replace hF := hF.1 h1
      refine lv_iconst (v := 0) hx hb dX10_out_56 (by decide) ?_
      exact B57 σ 0 hF H locs ls hP hS (lv_sub hl [] rfl)
    · replace hF := hF.2 h1
      refine lv_aload_n hx hb dX10_out_44 rfl (lv_at hl 1 rfl) ?_
      refine va_get (D := D) (ci := 10) (v := .ref (α.1 5)) (C := RX10) (T := TX10) (N := 11) hx hb hts in_X10 hown hK hP 10 (sm_gX10 σ α) rfl 7 (by decide) k_0 (fun _ h9 => h9) rfl dX10_out_45 ?_
      refine va_get (D := D) (ci := 5) (v := .ref (α.1 31)) (C := RX5) (T := TX5) (N := 5) hx hb hts in_X5 hown hK hP 5 (sm_gX5 σ α) rfl 3 (by decide) k_1 (fun _ h9 => h9) rfl dX10_out_48 ?_
      refine lv_iload_n hx hb dX10_out_51 rfl (lv_at hl 2 rfl) ?_
      obtain ⟨h2, hF⟩ := hF
      refine va_iald (n := (σ.2.2.1 31)) (f := (σ.2.2.2.1 31)) hx hb hK hP 31 20 (sm_aX31 σ α) (sm_yX31 α) h2 dX10_out_52 ?_
      refine lv_goto (tgt := 57) hx hb dX10_out_53 (by decide) ?_
      exact B57 σ ((σ.2.2.2.1 31) x1.toNatClampNeg) hF H locs ls hP hS (lv_sub hl [] rfl)
  have B38 : ∀ (σ : sm_S) (x1 : Int32), mp_X10_out_38 K σ x1 → sm_J p l e (headSpec wp_X10_out { frames := 0, cells := 0, slots := 0, locals := 0 }).room s m ([.ref (α.1 10), .int p1] : List Value).toArray below meth c (MQ below (va_Qi K (sm_B sm_wX D α) A) ([.ref (α.1 10), .int p1] : List Value).toArray s 0 0 A) D A 3 (sm_wX σ α) 38 [(0, .ref (α.1 10)), (1, .int x1)] [] := by
    intro σ x1 hF H locs ls hP hS hl
    unfold mp_X10_out_38 at hF
    refine lv_iconst (v := 0) hx hb dX10_out_38 (by decide) ?_
    exact B39 σ x1 0 hF H locs ls hP hS (lv_sub hl [0, 1] rfl)
  unfold mp_X10_out at hF
  revert hP hS
  generalize hLo : ([] : List Loc) = locs
  suffices h9 : ∀ (H : Heap) (locs : List Loc), va_P D vwCl (sm_wX σ α) H → va_S A s.heap H locs → W p l e (headSpec wp_X10_out { frames := 0, cells := 0, slots := 0, locals := 0 }).room s m ([.ref (α.1 10), .int p1] : List Value).toArray below meth c H locs 0 0 (MQ below (va_Qi K (sm_B sm_wX D α) A) ([.ref (α.1 10), .int p1] : List Value).toArray s 0 0 A) (F0 m 0 ls []) from fun hP hS => h9 s.heap locs hP hS
  intro H locs hP hS
  refine lv_aload_n hx hb dX10_out_0 rfl (lv_at hl 0 rfl) ?_
  refine va_get (D := D) (ci := 10) (v := .ref (α.1 7)) (C := RX10) (T := TX10) (N := 11) hx hb hts in_X10 hown hK hP 10 (sm_gX10 σ α) rfl 9 (by decide) k_2 (fun _ h9 => h9) rfl dX10_out_1 ?_
  refine va_get (D := D) (ci := 7) (v := .int (σ.1 22)) (C := RX7) (T := TX7) (N := 13) hx hb hts in_X7 hown hK hP 7 (sm_gX7 σ α) rfl 5 (by decide) k_3 (fun _ h9 => h9) rfl dX10_out_4 ?_
  refine lv_if_eq (tgt := 38) hx hb dX10_out_7 (by decide) (fun h3 => ?_) (fun h3 => ?_)
  · replace hF := hF.1 h3
    exact B38 σ p1 hF H locs ls hP hS (lv_sub hl [0, 1] rfl)
  · replace hF := hF.2 h3
    refine lv_iload_n hx hb dX10_out_10 rfl (lv_at hl 1 rfl) ?_
    refine lv_if_lt (tgt := 38) hx hb dX10_out_11 (by decide) (fun h4 => ?_) (fun h4 => ?_)
    · replace hF := hF.1 h4
      exact B38 σ p1 hF H locs ls hP hS (lv_sub hl [0, 1] rfl)
    · replace hF := hF.2 h4
      refine lv_iload_n hx hb dX10_out_14 rfl (lv_at hl 1 rfl) ?_
      refine lv_sipush (v := 1000) hx hb dX10_out_15 (by decide) ?_
      refine lv_icmp_ge (tgt := 38) hx hb dX10_out_18 (by decide) (fun h5 => ?_) (fun h5 => ?_)
      · replace hF := hF.1 h5
        exact B38 σ p1 hF H locs ls hP hS (lv_sub hl [0, 1] rfl)
      · replace hF := hF.2 h5
        refine lv_iload_n hx hb dX10_out_21 rfl (lv_at hl 1 rfl) ?_
        refine lv_i2l hx hb dX10_out_22 rfl ?_
        refine lv_aload_n hx hb dX10_out_23 rfl (lv_at hl 0 rfl) ?_
        refine va_get (D := D) (ci := 10) (v := .ref (α.1 5)) (C := RX10) (T := TX10) (N := 11) hx hb hts in_X10 hown hK hP 10 (sm_gX10 σ α) rfl 7 (by decide) k_0 (fun _ h9 => h9) rfl dX10_out_24 ?_
        refine va_get (D := D) (ci := 5) (v := .long (σ.2.1 0)) (C := RX5) (T := TX5) (N := 5) hx hb hts in_X5 hown hK hP 5 (sm_gX5 σ α) rfl 4 (by decide) k_4 (fun _ h9 => h9) rfl dX10_out_27 ?_
        refine W.lcmp hx hb dX10_out_30 ?_
        refine lv_if_ge (tgt := 38) hx hb dX10_out_31 (by decide) (fun h6 => ?_) (fun h6 => ?_)
        · replace hF := hF.1 h6
          exact B38 σ p1 hF H locs ls hP hS (lv_sub hl [0, 1] rfl)
        · replace hF := hF.2 h6
          refine lv_iconst (v := 1) hx hb dX10_out_34 (by decide) ?_
          refine lv_goto (tgt := 39) hx hb dX10_out_35 (by decide) ?_
          exact B39 σ p1 1 hF H locs ls hP hS (lv_sub hl [0, 1] rfl)
theorem dX10_frame_0 : decode cX10_frame 0 = .ok (.aload_n 0, 1) := by decide +kernel
theorem dX10_frame_1 : decode cX10_frame 1 = .ok (.getfield 72, 3) := by decide +kernel
theorem dX10_frame_4 : decode cX10_frame 4 = .ok (.getfield 103, 3) := by decide +kernel
theorem dX10_frame_7 : decode cX10_frame 7 = .ok (.ifCond .ne 7, 3) := by decide +kernel
theorem dX10_frame_10 : decode cX10_frame 10 = .ok (.iconst 0, 1) := by decide +kernel
theorem dX10_frame_11 : decode cX10_frame 11 = .ok (.goto 11, 3) := by decide +kernel
theorem dX10_frame_14 : decode cX10_frame 14 = .ok (.aload_n 0, 1) := by decide +kernel
theorem dX10_frame_15 : decode cX10_frame 15 = .ok (.getfield 81, 3) := by decide +kernel
theorem dX10_frame_18 : decode cX10_frame 18 = .ok (.iload_n 1, 1) := by decide +kernel
theorem dX10_frame_19 : decode cX10_frame 19 = .ok (.invokevirtual 185, 3) := by decide +kernel
theorem dX10_frame_22 : decode cX10_frame 22 = .ok (.istore_n 3, 1) := by decide +kernel
theorem dX10_frame_23 : decode cX10_frame 23 = .ok (.iload_n 3, 1) := by decide +kernel
theorem dX10_frame_24 : decode cX10_frame 24 = .ok (.ifCond .ne 7, 3) := by decide +kernel
theorem dX10_frame_27 : decode cX10_frame 27 = .ok (.iconst (-1), 1) := by decide +kernel
theorem dX10_frame_28 : decode cX10_frame 28 = .ok (.goto 12, 3) := by decide +kernel
theorem dX10_frame_31 : decode cX10_frame 31 = .ok (.aload_n 0, 1) := by decide +kernel
theorem dX10_frame_32 : decode cX10_frame 32 = .ok (.getfield 81, 3) := by decide +kernel
theorem dX10_frame_35 : decode cX10_frame 35 = .ok (.iload_n 3, 1) := by decide +kernel
theorem dX10_frame_36 : decode cX10_frame 36 = .ok (.iload_n 2, 1) := by decide +kernel
theorem dX10_frame_37 : decode cX10_frame 37 = .ok (.invokevirtual 188, 3) := by decide +kernel
theorem dX10_frame_40 : decode cX10_frame 40 = .ok (.ireturn, 1) := by decide +kernel
def wp_X10_frame : List Cond := .code yX10_frame cX10_frame 4 (some .int) :: (((([.fieldLink RX10 81 "SteadyMachine" "view" "LSteadyMachine$View;", .fieldLink RX10 72 "SteadyMachine" "runner" "LSteadyMachine$Runner;", .fieldLink RX10 103 "SteadyMachine$Runner" "state" "I"] ++ (wsV RX10 188 RX9 yX9_ofFrame wp_X9_ofFrame)) ++ (wsV RX10 185 RX9 yX9_frameAt wp_X9_frameAt)) ++ wsX100) ++ wsX70)
theorem wq_X10_frame : wp_X10_frame.all goodWord = true := wa_c rfl (wa_a (wa_a (wa_a (wa_a (by decide +kernel) (wa_V wq_X9_ofFrame)) (wa_V wq_X9_frameAt)) uq_X10) uq_X7)
theorem wt_X10_frame : GoodIn lw_tbl wp_X10_frame := wm_c (List.mem_of_getElem? (i := 1109) (by decide +kernel)) rfl (wm_a (wm_a (wm_a (wm_a (goodIn_r _ [581, 580, 518] (by decide +kernel) (by decide +kernel)) (wm_a (goodIn_r _ [1123, 1124, 1125, 146] (by decide +kernel) (by decide +kernel)) wt_X9_ofFrame)) (wm_a (goodIn_r _ [1110, 1111, 1112, 146] (by decide +kernel) (by decide +kernel)) wt_X9_frameAt)) ut_X10) ut_X7)
theorem wg_X10_frame_X9_ofFrame_188 : GoodIn wp_X10_frame (wsV RX10 188 RX9 yX9_ofFrame wp_X9_ofFrame) := goodIn_sub (fun w h => List.mem_cons_of_mem _ (List.mem_append_left _ (List.mem_append_left _ (List.mem_append_left _ (List.mem_append_right _ h))))) (wa_V wq_X9_ofFrame)
theorem wg_X10_frame_X9_frameAt_185 : GoodIn wp_X10_frame (wsV RX10 185 RX9 yX9_frameAt wp_X9_frameAt) := goodIn_sub (fun w h => List.mem_cons_of_mem _ (List.mem_append_left _ (List.mem_append_left _ (List.mem_append_right _ h)))) (wa_V wq_X9_frameAt)
theorem wi_X10_frame_X10 : ∀ w ∈ wsX100, w ∈ wp_X10_frame := fun w h => List.mem_cons_of_mem _ (List.mem_append_left _ (List.mem_append_right _ h))
theorem wi_X10_frame_X7 : ∀ w ∈ wsX70, w ∈ wp_X10_frame := fun w h => List.mem_cons_of_mem _ (List.mem_append_right _ h)
set_option maxHeartbeats 4000000 in
set_option maxRecDepth 100000 in
theorem c_X10_frame (l : Launch) (D : va_G) (sz t0 : Nat) (σ : sm_S) (α : sm_A) (p1 : Int32) (p2 : Int32) (K : Int32 → sm_S → Prop) (hF : mp_X10_frame σ p1 p2 K) : Met l yX10_frame wp_X10_frame { frames := 3, cells := 0, slots := 0, locals := 69 } (sm_P sm_wX sm_tX 37 D sz t0 σ α [.ref (α.1 10), .int p1, .int p2]) (va_Qi K (sm_B sm_wX D α) (sm_a α 37 sz)) 0 0 (sm_a α 37 sz) := by
  refine Met.ofW (cc := cX10_frame) (maxL := 4) (ret := (some .int)) (by decide) rfl ?_
  intro p e s m args below meth c s₁ B hml hv
  obtain ⟨rfl, hsz, hP, hK, hD0, hE⟩ := hv
  have hx := B.exec
  have hb := B.bytes
  have hr := B.returns
  have hts := atoms_spec (ws := wp_X10_frame) B.pre
  have hown : s.vm.findClass RX10 = some m.cls := findClass_of_methodNamed B.named
  have hlocks := B.notSynchronized
  subst hsz
  have hD : sm_D (sm_a α 37 s.heap.size) α 37 := hD0.own
  have hA : ∀ q : Nat, s.heap.size ≤ q → sm_a α 37 s.heap.size q := fun q h => Or.inr h
  generalize hAe : sm_a α 37 s.heap.size = A at hD hA hE ⊢
  have hS : va_S A s.heap s.heap [] := va_S.rf
  have in_X10 : ∀ w ∈ wsX100, w ∈ wp_X10_frame := wi_X10_frame_X10
  have in_X7 : ∀ w ∈ wsX70, w ∈ wp_X10_frame := wi_X10_frame_X7
  have k_0 := hts (.fieldLink RX10 81 "SteadyMachine" "view" "LSteadyMachine$View;") (by decide +kernel)
  have k_1 := hts (.fieldLink RX10 72 "SteadyMachine" "runner" "LSteadyMachine$Runner;") (by decide +kernel)
  have k_2 := hts (.fieldLink RX10 103 "SteadyMachine$Runner" "state" "I") (by decide +kernel)
  have hl := lv_entry ([.ref (α.1 10), .int p1, .int p2]) (n := 4) (Nat.le_of_ble_eq_true rfl)
  rw [lg_entry_eq]
  generalize (lg_sl ([.ref (α.1 10), .int p1, .int p2]) ++ List.replicate (4 - (lg_sl ([.ref (α.1 10), .int p1, .int p2])).length) Slot.unset).toArray = ls at hl ⊢
  have hl : lv_has ls 4 [(0, .ref (α.1 10)), (1, .int p1), (2, .int p2)] := hl
  have B40 : ∀ (σ : sm_S) (y0 : Int32), mp_X10_frame_40 K σ y0 → sm_J p l e (headSpec wp_X10_frame { frames := 3, cells := 0, slots := 0, locals := 69 }).room s m ([.ref (α.1 10), .int p1, .int p2] : List Value).toArray below meth c (MQ below (va_Qi K (sm_B sm_wX D α) A) ([.ref (α.1 10), .int p1, .int p2] : List Value).toArray s 0 0 A) D A 4 (sm_wX σ α) 40 [] [.int y0] := by
    intro σ y0 hF H locs ls hP hS hl
    unfold mp_X10_frame_40 at hF
    exact W.iret (v := y0) hx hb hr (fun t ht hW => ⟨⟨y0, σ, rfl, hF, (by unfold sm_B; rw [ht]; exact hP)⟩, hS.F ht⟩) hS.2.2 dX10_frame_40
  have B22 : ∀ (σ : sm_S) (x2 : Int32) (y0 : Int32), mp_X10_frame_22 K σ x2 y0 → sm_J p l e (headSpec wp_X10_frame { frames := 3, cells := 0, slots := 0, locals := 69 }).room s m ([.ref (α.1 10), .int p1, .int p2] : List Value).toArray below meth c (MQ below (va_Qi K (sm_B sm_wX D α) A) ([.ref (α.1 10), .int p1, .int p2] : List Value).toArray s 0 0 A) D A 4 (sm_wX σ α) 22 [(0, .ref (α.1 10)), (2, .int x2)] [.int y0] := by
    intro σ x2 y0 hF H locs ls hP hS hl
    unfold mp_X10_frame_22 at hF
    refine lv_istore_n (lv' := [(3, .int y0), (0, .ref (α.1 10)), (2, .int x2)]) hx hb dX10_frame_22 rfl hl (by decide) rfl (fun ls hl => ?_)
    refine lv_iload_n hx hb dX10_frame_23 rfl (lv_at hl 0 rfl) ?_
    refine lv_if_ne (tgt := 31) hx hb dX10_frame_24 (by decide) (fun h1 => ?_) (fun h1 => ?_)
    · replace hF := hF.1 h1
      refine lv_aload_n hx hb dX10_frame_31 rfl (lv_at hl 1 rfl) ?_
      refine va_get (D := D) (ci := 10) (v := .ref (α.1 9)) (C := RX10) (T := TX10) (N := 11) hx hb hts in_X10 hown hK hP 10 (sm_gX10 σ α) rfl 10 (by decide) k_0 (fun _ h9 => h9) rfl dX10_frame_32 ?_
      refine lv_iload_n hx hb dX10_frame_35 rfl (lv_at hl 0 rfl) ?_
      refine lv_iload_n hx hb dX10_frame_36 rfl (lv_at hl 2 rfl) ?_
      refine sm_vi (As := [.int y0, .int x2]) (rest := []) hP hK hD hE hS hA ⟨hx, hb, hml, hown, hts⟩ hl.1 (c_X9_ofFrame l D H.size t0 σ α y0 x2 _ hF) (cwV 2 hts wg_X10_frame_X9_ofFrame_188 rfl rfl rfl (by decide +kernel) ⟨Nat.le_of_ble_eq_true rfl, Nat.le_of_ble_eq_true rfl⟩) (va_recv hK hP (ci := 9) (q0 := 9) rfl (sm_gX9 σ α)) rfl rfl (Nat.le_of_ble_eq_true rfl) dX10_frame_37 ⟨Nat.zero_le _, Nat.zero_le _⟩ (fun r3 σ2 H locs hF hP hS => ?_)
      exact B40 σ2 r3 hF H locs ls hP hS (lv_sub hl [] rfl)
    · replace hF := hF.2 h1
      refine lv_iconst (v := -1) hx hb dX10_frame_27 (by decide) ?_
      refine lv_goto (tgt := 40) hx hb dX10_frame_28 (by decide) ?_
      exact B40 σ (-1) hF H locs ls hP hS (lv_sub hl [] rfl)
  unfold mp_X10_frame at hF
  revert hP hS
  generalize hLo : ([] : List Loc) = locs
  suffices h9 : ∀ (H : Heap) (locs : List Loc), va_P D vwCl (sm_wX σ α) H → va_S A s.heap H locs → W p l e (headSpec wp_X10_frame { frames := 3, cells := 0, slots := 0, locals := 69 }).room s m ([.ref (α.1 10), .int p1, .int p2] : List Value).toArray below meth c H locs 0 0 (MQ below (va_Qi K (sm_B sm_wX D α) A) ([.ref (α.1 10), .int p1, .int p2] : List Value).toArray s 0 0 A) (F0 m 0 ls []) from fun hP hS => h9 s.heap locs hP hS
  intro H locs hP hS
  refine lv_aload_n hx hb dX10_frame_0 rfl (lv_at hl 0 rfl) ?_
  refine va_get (D := D) (ci := 10) (v := .ref (α.1 7)) (C := RX10) (T := TX10) (N := 11) hx hb hts in_X10 hown hK hP 10 (sm_gX10 σ α) rfl 9 (by decide) k_1 (fun _ h9 => h9) rfl dX10_frame_1 ?_
  refine va_get (D := D) (ci := 7) (v := .int (σ.1 22)) (C := RX7) (T := TX7) (N := 13) hx hb hts in_X7 hown hK hP 7 (sm_gX7 σ α) rfl 5 (by decide) k_2 (fun _ h9 => h9) rfl dX10_frame_4 ?_
  refine lv_if_ne (tgt := 14) hx hb dX10_frame_7 (by decide) (fun h4 => ?_) (fun h4 => ?_)
  · replace hF := hF.1 h4
    refine lv_aload_n hx hb dX10_frame_14 rfl (lv_at hl 0 rfl) ?_
    refine va_get (D := D) (ci := 10) (v := .ref (α.1 9)) (C := RX10) (T := TX10) (N := 11) hx hb hts in_X10 hown hK hP 10 (sm_gX10 σ α) rfl 10 (by decide) k_0 (fun _ h9 => h9) rfl dX10_frame_15 ?_
    refine lv_iload_n hx hb dX10_frame_18 rfl (lv_at hl 1 rfl) ?_
    refine sm_vi (As := [.int p1]) (rest := []) hP hK hD hE hS hA ⟨hx, hb, hml, hown, hts⟩ hl.1 (c_X9_frameAt l D H.size t0 σ α p1 _ hF) (cwV 1 hts wg_X10_frame_X9_frameAt_185 rfl rfl rfl (by decide +kernel) ⟨Nat.le_of_ble_eq_true rfl, Nat.le_of_ble_eq_true rfl⟩) (va_recv hK hP (ci := 9) (q0 := 9) rfl (sm_gX9 σ α)) rfl rfl (Nat.le_of_ble_eq_true rfl) dX10_frame_19 ⟨Nat.zero_le _, Nat.zero_le _⟩ (fun r6 σ5 H locs hF hP hS => ?_)
    exact B22 σ5 p2 r6 hF H locs ls hP hS (lv_sub hl [0, 2] rfl)
  · replace hF := hF.2 h4
    refine lv_iconst (v := 0) hx hb dX10_frame_10 (by decide) ?_
    refine lv_goto (tgt := 22) hx hb dX10_frame_11 (by decide) ?_
    exact B22 σ p2 0 hF H locs ls hP hS (lv_sub hl [0, 2] rfl)
theorem dX10_value_0 : decode cX10_value 0 = .ok (.aload_n 0, 1) := by decide +kernel
theorem dX10_value_1 : decode cX10_value 1 = .ok (.getfield 72, 3) := by decide +kernel
theorem dX10_value_4 : decode cX10_value 4 = .ok (.getfield 103, 3) := by decide +kernel
theorem dX10_value_7 : decode cX10_value 7 = .ok (.ifCond .eq 14, 3) := by decide +kernel
theorem dX10_value_10 : decode cX10_value 10 = .ok (.iload 5, 2) := by decide +kernel
theorem dX10_value_12 : decode cX10_value 12 = .ok (.ifCond .lt 9, 3) := by decide +kernel
theorem dX10_value_15 : decode cX10_value 15 = .ok (.iload 5, 2) := by decide +kernel
theorem dX10_value_17 : decode cX10_value 17 = .ok (.iconst 2, 1) := by decide +kernel
theorem dX10_value_18 : decode cX10_value 18 = .ok (.if_icmp .le 7, 3) := by decide +kernel
theorem dX10_value_21 : decode cX10_value 21 = .ok (.ldc2_w 179, 3) := by decide +kernel
theorem dX10_value_24 : decode cX10_value 24 = .ok (.lreturn, 1) := by decide +kernel
theorem dX10_value_25 : decode cX10_value 25 = .ok (.iload_n 1, 1) := by decide +kernel
theorem dX10_value_26 : decode cX10_value 26 = .ok (.iconst (-1), 1) := by decide +kernel
theorem dX10_value_27 : decode cX10_value 27 = .ok (.if_icmp .ne 14, 3) := by decide +kernel
theorem dX10_value_30 : decode cX10_value 30 = .ok (.aload_n 0, 1) := by decide +kernel
theorem dX10_value_31 : decode cX10_value 31 = .ok (.getfield 81, 3) := by decide +kernel
theorem dX10_value_34 : decode cX10_value 34 = .ok (.iload_n 2, 1) := by decide +kernel
theorem dX10_value_35 : decode cX10_value 35 = .ok (.invokevirtual 191, 3) := by decide +kernel
theorem dX10_value_38 : decode cX10_value 38 = .ok (.goto 19, 3) := by decide +kernel
theorem dX10_value_41 : decode cX10_value 41 = .ok (.aload_n 0, 1) := by decide +kernel
theorem dX10_value_42 : decode cX10_value 42 = .ok (.getfield 81, 3) := by decide +kernel
theorem dX10_value_45 : decode cX10_value 45 = .ok (.aload_n 0, 1) := by decide +kernel
theorem dX10_value_46 : decode cX10_value 46 = .ok (.getfield 81, 3) := by decide +kernel
theorem dX10_value_49 : decode cX10_value 49 = .ok (.iload_n 1, 1) := by decide +kernel
theorem dX10_value_50 : decode cX10_value 50 = .ok (.invokevirtual 185, 3) := by decide +kernel
theorem dX10_value_53 : decode cX10_value 53 = .ok (.iload_n 2, 1) := by decide +kernel
theorem dX10_value_54 : decode cX10_value 54 = .ok (.invokevirtual 195, 3) := by decide +kernel
theorem dX10_value_57 : decode cX10_value 57 = .ok (.lstore 6, 2) := by decide +kernel
theorem dX10_value_59 : decode cX10_value 59 = .ok (.aload_n 0, 1) := by decide +kernel
theorem dX10_value_60 : decode cX10_value 60 = .ok (.getfield 81, 3) := by decide +kernel
theorem dX10_value_63 : decode cX10_value 63 = .ok (.aload_n 0, 1) := by decide +kernel
theorem dX10_value_64 : decode cX10_value 64 = .ok (.getfield 81, 3) := by decide +kernel
theorem dX10_value_67 : decode cX10_value 67 = .ok (.lload 6, 2) := by decide +kernel
theorem dX10_value_69 : decode cX10_value 69 = .ok (.lload_n 3, 1) := by decide +kernel
theorem dX10_value_70 : decode cX10_value 70 = .ok (.invokevirtual 199, 3) := by decide +kernel
theorem dX10_value_73 : decode cX10_value 73 = .ok (.iload 5, 2) := by decide +kernel
theorem dX10_value_75 : decode cX10_value 75 = .ok (.invokevirtual 203, 3) := by decide +kernel
theorem dX10_value_78 : decode cX10_value 78 = .ok (.lreturn, 1) := by decide +kernel
def wp_X10_value : List Cond := .code yX10_value cX10_value 8 (some .long) :: ((((((([.fieldLink RX10 81 "SteadyMachine" "view" "LSteadyMachine$View;", .constantLong RX10 179 (-1), .fieldLink RX10 72 "SteadyMachine" "runner" "LSteadyMachine$Runner;", .fieldLink RX10 103 "SteadyMachine$Runner" "state" "I"] ++ (wsV RX10 199 RX9 yX9_along wp_X9_along)) ++ (wsV RX10 203 RX9 yX9_ask wp_X9_ask)) ++ (wsV RX10 185 RX9 yX9_frameAt wp_X9_frameAt)) ++ (wsV RX10 195 RX9 yX9_ofPlace wp_X9_ofPlace)) ++ (wsV RX10 191 RX9 yX9_flying wp_X9_flying)) ++ wsX100) ++ wsX70)
theorem wq_X10_value : wp_X10_value.all goodWord = true := wa_c rfl (wa_a (wa_a (wa_a (wa_a (wa_a (wa_a (wa_a (by decide +kernel) (wa_V wq_X9_along)) (wa_V wq_X9_ask)) (wa_V wq_X9_frameAt)) (wa_V wq_X9_ofPlace)) (wa_V wq_X9_flying)) uq_X10) uq_X7)
theorem wt_X10_value : GoodIn lw_tbl wp_X10_value := wm_c (List.mem_of_getElem? (i := 1130) (by decide +kernel)) rfl (wm_a (wm_a (wm_a (wm_a (wm_a (wm_a (wm_a (goodIn_r _ [581, 1101, 580, 518] (by decide +kernel) (by decide +kernel)) (wm_a (goodIn_r _ [1142, 1143, 1144, 146] (by decide +kernel) (by decide +kernel)) wt_X9_along)) (wm_a (goodIn_r _ [1159, 1160, 1161, 146] (by decide +kernel) (by decide +kernel)) wt_X9_ask)) (wm_a (goodIn_r _ [1110, 1111, 1112, 146] (by decide +kernel) (by decide +kernel)) wt_X9_frameAt)) (wm_a (goodIn_r _ [1137, 1138, 1139, 146] (by decide +kernel) (by decide +kernel)) wt_X9_ofPlace)) (wm_a (goodIn_r _ [1131, 1132, 1133, 146] (by decide +kernel) (by decide +kernel)) wt_X9_flying)) ut_X10) ut_X7)
theorem wg_X10_value_X9_along_199 : GoodIn wp_X10_value (wsV RX10 199 RX9 yX9_along wp_X9_along) := goodIn_sub (fun w h => List.mem_cons_of_mem _ (List.mem_append_left _ (List.mem_append_left _ (List.mem_append_left _ (List.mem_append_left _ (List.mem_append_left _ (List.mem_append_left _ (List.mem_append_right _ h)))))))) (wa_V wq_X9_along)
theorem wg_X10_value_X9_ask_203 : GoodIn wp_X10_value (wsV RX10 203 RX9 yX9_ask wp_X9_ask) := goodIn_sub (fun w h => List.mem_cons_of_mem _ (List.mem_append_left _ (List.mem_append_left _ (List.mem_append_left _ (List.mem_append_left _ (List.mem_append_left _ (List.mem_append_right _ h))))))) (wa_V wq_X9_ask)
theorem wg_X10_value_X9_frameAt_185 : GoodIn wp_X10_value (wsV RX10 185 RX9 yX9_frameAt wp_X9_frameAt) := goodIn_sub (fun w h => List.mem_cons_of_mem _ (List.mem_append_left _ (List.mem_append_left _ (List.mem_append_left _ (List.mem_append_left _ (List.mem_append_right _ h)))))) (wa_V wq_X9_frameAt)
theorem wg_X10_value_X9_ofPlace_195 : GoodIn wp_X10_value (wsV RX10 195 RX9 yX9_ofPlace wp_X9_ofPlace) := goodIn_sub (fun w h => List.mem_cons_of_mem _ (List.mem_append_left _ (List.mem_append_left _ (List.mem_append_left _ (List.mem_append_right _ h))))) (wa_V wq_X9_ofPlace)
theorem wg_X10_value_X9_flying_191 : GoodIn wp_X10_value (wsV RX10 191 RX9 yX9_flying wp_X9_flying) := goodIn_sub (fun w h => List.mem_cons_of_mem _ (List.mem_append_left _ (List.mem_append_left _ (List.mem_append_right _ h)))) (wa_V wq_X9_flying)
theorem wi_X10_value_X10 : ∀ w ∈ wsX100, w ∈ wp_X10_value := fun w h => List.mem_cons_of_mem _ (List.mem_append_left _ (List.mem_append_right _ h))
theorem wi_X10_value_X7 : ∀ w ∈ wsX70, w ∈ wp_X10_value := fun w h => List.mem_cons_of_mem _ (List.mem_append_right _ h)
set_option maxHeartbeats 4000000 in
set_option maxRecDepth 100000 in
theorem c_X10_value (l : Launch) (D : va_G) (sz t0 : Nat) (σ : sm_S) (α : sm_A) (p1 : Int32) (p2 : Int32) (p3 : Int64) (p4 : Int32) (K : Int64 → sm_S → Prop) (hF : mp_X10_value σ p1 p2 p3 p4 K) : Met l yX10_value wp_X10_value { frames := 5, cells := 0, slots := 0, locals := 129 } (sm_P sm_wX sm_tX 37 D sz t0 σ α [.ref (α.1 10), .int p1, .int p2, .long p3, .int p4]) (va_Ql K (sm_B sm_wX D α) (sm_a α 37 sz)) 0 0 (sm_a α 37 sz) := by
  refine Met.ofW (cc := cX10_value) (maxL := 8) (ret := (some .long)) (by decide) rfl ?_
  intro p e s m args below meth c s₁ B hml hv
  obtain ⟨rfl, hsz, hP, hK, hD0, hE⟩ := hv
  have hx := B.exec
  have hb := B.bytes
  have hr := B.returns
  have hts := atoms_spec (ws := wp_X10_value) B.pre
  have hown : s.vm.findClass RX10 = some m.cls := findClass_of_methodNamed B.named
  have hlocks := B.notSynchronized
  subst hsz
  have hD : sm_D (sm_a α 37 s.heap.size) α 37 := hD0.own
  have hA : ∀ q : Nat, s.heap.size ≤ q → sm_a α 37 s.heap.size q := fun q h => Or.inr h
  generalize hAe : sm_a α 37 s.heap.size = A at hD hA hE ⊢
  have hS : va_S A s.heap s.heap [] := va_S.rf
  have in_X10 : ∀ w ∈ wsX100, w ∈ wp_X10_value := wi_X10_value_X10
  have in_X7 : ∀ w ∈ wsX70, w ∈ wp_X10_value := wi_X10_value_X7
  have k_0 := hts (.fieldLink RX10 81 "SteadyMachine" "view" "LSteadyMachine$View;") (by decide +kernel)
  have k_1 := hts (.constantLong RX10 179 (-1)) (by decide +kernel)
  have k_2 := hts (.fieldLink RX10 72 "SteadyMachine" "runner" "LSteadyMachine$Runner;") (by decide +kernel)
  have k_3 := hts (.fieldLink RX10 103 "SteadyMachine$Runner" "state" "I") (by decide +kernel)
  have hl := lv_entry ([.ref (α.1 10), .int p1, .int p2, .long p3, .int p4]) (n := 8) (Nat.le_of_ble_eq_true rfl)
  rw [lg_entry_eq]
  generalize (lg_sl ([.ref (α.1 10), .int p1, .int p2, .long p3, .int p4]) ++ List.replicate (8 - (lg_sl ([.ref (α.1 10), .int p1, .int p2, .long p3, .int p4])).length) Slot.unset).toArray = ls at hl ⊢
  have hl : lv_has ls 8 [(0, .ref (α.1 10)), (1, .int p1), (2, .int p2), (3, .long p3), (5, .int p4)] := hl
  have B57 : ∀ (σ : sm_S) (x3 : Int64) (x5 : Int32) (y0 : Int64), mp_X10_value_57 K σ x3 x5 y0 → sm_J p l e (headSpec wp_X10_value { frames := 5, cells := 0, slots := 0, locals := 129 }).room s m ([.ref (α.1 10), .int p1, .int p2, .long p3, .int p4] : List Value).toArray below meth c (MQ below (va_Ql K (sm_B sm_wX D α) A) ([.ref (α.1 10), .int p1, .int p2, .long p3, .int p4] : List Value).toArray s 0 0 A) D A 8 (sm_wX σ α) 57 [(0, .ref (α.1 10)), (3, .long x3), (5, .int x5)] [.long y0] := by
    intro σ x3 x5 y0 hF H locs ls hP hS hl
    unfold mp_X10_value_57 at hF
    refine lv_lstore (lv' := [(6, .long y0), (0, .ref (α.1 10)), (3, .long x3), (5, .int x5)]) hx hb dX10_value_57 hl (by decide) rfl (fun ls hl => ?_)
    refine lv_aload_n hx hb dX10_value_59 rfl (lv_at hl 1 rfl) ?_
    refine va_get (D := D) (ci := 10) (v := .ref (α.1 9)) (C := RX10) (T := TX10) (N := 11) hx hb hts in_X10 hown hK hP 10 (sm_gX10 σ α) rfl 10 (by decide) k_0 (fun _ h9 => h9) rfl dX10_value_60 ?_
    refine lv_aload_n hx hb dX10_value_63 rfl (lv_at hl 1 rfl) ?_
    refine va_get (D := D) (ci := 10) (v := .ref (α.1 9)) (C := RX10) (T := TX10) (N := 11) hx hb hts in_X10 hown hK hP 10 (sm_gX10 σ α) rfl 10 (by decide) k_0 (fun _ h9 => h9) rfl dX10_value_64 ?_
    refine lv_lload hx hb dX10_value_67 (lv_at hl 0 rfl) ?_
    refine lv_lload_n hx hb dX10_value_69 rfl (lv_at hl 2 rfl) ?_
    refine sm_vl (As := [.long y0, .long x3]) (rest := [.ref (α.1 9)]) hP hK hD hE hS hA ⟨hx, hb, hml, hown, hts⟩ hl.1 (c_X9_along l D H.size t0 σ α y0 x3 _ hF) (cwV 2 hts wg_X10_value_X9_along_199 rfl rfl rfl (by decide +kernel) ⟨Nat.le_of_ble_eq_true rfl, Nat.le_of_ble_eq_true rfl⟩) (va_recv hK hP (ci := 9) (q0 := 9) rfl (sm_gX9 σ α)) rfl rfl (Nat.le_of_ble_eq_true rfl) dX10_value_70 ⟨Nat.zero_le _, Nat.zero_le _⟩ (fun r2 σ1 H locs hF hP hS => ?_)
    refine lv_iload hx hb dX10_value_73 (lv_at hl 3 rfl) ?_
    refine sm_vl (As := [.long r2, .int x5]) (rest := []) hP hK hD hE hS hA ⟨hx, hb, hml, hown, hts⟩ hl.1 (c_X9_ask l D H.size t0 σ1 α r2 x5 _ hF) (cwV 2 hts wg_X10_value_X9_ask_203 rfl rfl rfl (by decide +kernel) ⟨Nat.le_of_ble_eq_true rfl, Nat.le_of_ble_eq_true rfl⟩) (va_recv hK hP (ci := 9) (q0 := 9) rfl (sm_gX9 σ1 α)) rfl rfl (Nat.le_of_ble_eq_true rfl) dX10_value_75 ⟨Nat.zero_le _, Nat.zero_le _⟩ (fun r4 σ3 H locs hF hP hS => ?_)
    exact W.lret (v := r4) hx hb hr (fun t ht hW => ⟨⟨r4, σ3, rfl, hF, (by unfold sm_B; rw [ht]; exact hP)⟩, hS.F ht⟩) hS.2.2 dX10_value_78
  have B21 : ∀ (σ : sm_S), mp_X10_value_21 K σ → sm_J p l e (headSpec wp_X10_value { frames := 5, cells := 0, slots := 0, locals := 129 }).room s m ([.ref (α.1 10), .int p1, .int p2, .long p3, .int p4] : List Value).toArray below meth c (MQ below (va_Ql K (sm_B sm_wX D α) A) ([.ref (α.1 10), .int p1, .int p2, .long p3, .int p4] : List Value).toArray s 0 0 A) D A 8 (sm_wX σ α) 21 [] [] := by
    intro σ hF H locs ls hP hS hl
    unfold mp_X10_value_21 at hF
    refine lv_ldc2 (v := -1) hx hb hown k_1 dX10_value_21 ?_
    exact W.lret (v := (-1)) hx hb hr (fun t ht hW => ⟨⟨(-1), σ, rfl, hF, (by unfold sm_B; rw [ht]; exact hP)⟩, hS.F ht⟩) hS.2.2 dX10_value_24
  unfold mp_X10_value at hF
  revert hP hS
  generalize hLo : ([] : List Loc) = locs
  suffices h9 : ∀ (H : Heap) (locs : List Loc), va_P D vwCl (sm_wX σ α) H → va_S A s.heap H locs → W p l e (headSpec wp_X10_value { frames := 5, cells := 0, slots := 0, locals := 129 }).room s m ([.ref (α.1 10), .int p1, .int p2, .long p3, .int p4] : List Value).toArray below meth c H locs 0 0 (MQ below (va_Ql K (sm_B sm_wX D α) A) ([.ref (α.1 10), .int p1, .int p2, .long p3, .int p4] : List Value).toArray s 0 0 A) (F0 m 0 ls []) from fun hP hS => h9 s.heap locs hP hS
  intro H locs hP hS
  refine lv_aload_n hx hb dX10_value_0 rfl (lv_at hl 0 rfl) ?_
  refine va_get (D := D) (ci := 10) (v := .ref (α.1 7)) (C := RX10) (T := TX10) (N := 11) hx hb hts in_X10 hown hK hP 10 (sm_gX10 σ α) rfl 9 (by decide) k_2 (fun _ h9 => h9) rfl dX10_value_1 ?_
  refine va_get (D := D) (ci := 7) (v := .int (σ.1 22)) (C := RX7) (T := TX7) (N := 13) hx hb hts in_X7 hown hK hP 7 (sm_gX7 σ α) rfl 5 (by decide) k_3 (fun _ h9 => h9) rfl dX10_value_4 ?_
  refine lv_if_eq (tgt := 21) hx hb dX10_value_7 (by decide) (fun h5 => ?_) (fun h5 => ?_)
  · replace hF := hF.1 h5
    exact B21 σ hF H locs ls hP hS (lv_sub hl [] rfl)
  · replace hF := hF.2 h5
    refine lv_iload hx hb dX10_value_10 (lv_at hl 4 rfl) ?_
    refine lv_if_lt (tgt := 21) hx hb dX10_value_12 (by decide) (fun h6 => ?_) (fun h6 => ?_)
    · replace hF := hF.1 h6
      exact B21 σ hF H locs ls hP hS (lv_sub hl [] rfl)
    · replace hF := hF.2 h6
      refine lv_iload hx hb dX10_value_15 (lv_at hl 4 rfl) ?_
      refine lv_iconst (v := 2) hx hb dX10_value_17 (by decide) ?_
      refine lv_icmp_le (tgt := 25) hx hb dX10_value_18 (by decide) (fun h7 => ?_) (fun h7 => ?_)
      · replace hF := hF.1 h7
        refine lv_iload_n hx hb dX10_value_25 rfl (lv_at hl 1 rfl) ?_
        refine lv_iconst (v := -1) hx hb dX10_value_26 (by decide) ?_
        refine lv_icmp_ne (tgt := 41) hx hb dX10_value_27 (by decide) (fun h8 => ?_) (fun h8 => ?_)
        · replace hF := hF.1 h8
          refine lv_aload_n hx hb dX10_value_41 rfl (lv_at hl 0 rfl) ?_
          refine va_get (D := D) (ci := 10) (v := .ref (α.1 9)) (C := RX10) (T := TX10) (N := 11) hx hb hts in_X10 hown hK hP 10 (sm_gX10 σ α) rfl 10 (by decide) k_0 (fun _ h9 => h9) rfl dX10_value_42 ?_
          refine lv_aload_n hx hb dX10_value_45 rfl (lv_at hl 0 rfl) ?_
          refine va_get (D := D) (ci := 10) (v := .ref (α.1 9)) (C := RX10) (T := TX10) (N := 11) hx hb hts in_X10 hown hK hP 10 (sm_gX10 σ α) rfl 10 (by decide) k_0 (fun _ h9 => h9) rfl dX10_value_46 ?_
          refine lv_iload_n hx hb dX10_value_49 rfl (lv_at hl 1 rfl) ?_
          refine sm_vi (As := [.int p1]) (rest := [.ref (α.1 9)]) hP hK hD hE hS hA ⟨hx, hb, hml, hown, hts⟩ hl.1 (c_X9_frameAt l D H.size t0 σ α p1 _ hF) (cwV 1 hts wg_X10_value_X9_frameAt_185 rfl rfl rfl (by decide +kernel) ⟨Nat.le_of_ble_eq_true rfl, Nat.le_of_ble_eq_true rfl⟩) (va_recv hK hP (ci := 9) (q0 := 9) rfl (sm_gX9 σ α)) rfl rfl (Nat.le_of_ble_eq_true rfl) dX10_value_50 ⟨Nat.zero_le _, Nat.zero_le _⟩ (fun r10 σ9 H locs hF hP hS => ?_)
          refine lv_iload_n hx hb dX10_value_53 rfl (lv_at hl 2 rfl) ?_
          refine sm_vl (As := [.int r10, .int p2]) (rest := []) hP hK hD hE hS hA ⟨hx, hb, hml, hown, hts⟩ hl.1 (c_X9_ofPlace l D H.size t0 σ9 α r10 p2 _ hF) (cwV 2 hts wg_X10_value_X9_ofPlace_195 rfl rfl rfl (by decide +kernel) ⟨Nat.le_of_ble_eq_true rfl, Nat.le_of_ble_eq_true rfl⟩) (va_recv hK hP (ci := 9) (q0 := 9) rfl (sm_gX9 σ9 α)) rfl rfl (Nat.le_of_ble_eq_true rfl) dX10_value_54 ⟨Nat.zero_le _, Nat.zero_le _⟩ (fun r12 σ11 H locs hF hP hS => ?_)
          exact B57 σ11 p3 p4 r12 hF H locs ls hP hS (lv_sub hl [0, 3, 4] rfl)
        · replace hF := hF.2 h8
          refine lv_aload_n hx hb dX10_value_30 rfl (lv_at hl 0 rfl) ?_
          refine va_get (D := D) (ci := 10) (v := .ref (α.1 9)) (C := RX10) (T := TX10) (N := 11) hx hb hts in_X10 hown hK hP 10 (sm_gX10 σ α) rfl 10 (by decide) k_0 (fun _ h9 => h9) rfl dX10_value_31 ?_
          refine lv_iload_n hx hb dX10_value_34 rfl (lv_at hl 2 rfl) ?_
          refine sm_vl (As := [.int p2]) (rest := []) hP hK hD hE hS hA ⟨hx, hb, hml, hown, hts⟩ hl.1 (c_X9_flying l D H.size t0 σ α p2 _ hF) (cwV 1 hts wg_X10_value_X9_flying_191 rfl rfl rfl (by decide +kernel) ⟨Nat.le_of_ble_eq_true rfl, Nat.le_of_ble_eq_true rfl⟩) (va_recv hK hP (ci := 9) (q0 := 9) rfl (sm_gX9 σ α)) rfl rfl (Nat.le_of_ble_eq_true rfl) dX10_value_35 ⟨Nat.zero_le _, Nat.zero_le _⟩ (fun r14 σ13 H locs hF hP hS => ?_)
          refine lv_goto (tgt := 57) hx hb dX10_value_38 (by decide) ?_
          exact B57 σ13 p3 p4 r14 hF H locs ls hP hS (lv_sub hl [0, 3, 4] rfl)
      · replace hF := hF.2 h7
        exact B21 σ hF H locs ls hP hS (lv_sub hl [] rfl)
theorem dX10_same_0 : decode cX10_same 0 = .ok (.aload_n 0, 1) := by decide +kernel
theorem dX10_same_1 : decode cX10_same 1 = .ok (.getfield 72, 3) := by decide +kernel
theorem dX10_same_4 : decode cX10_same 4 = .ok (.getfield 103, 3) := by decide +kernel
theorem dX10_same_7 : decode cX10_same 7 = .ok (.ifCond .ne 5, 3) := by decide +kernel
theorem dX10_same_10 : decode cX10_same 10 = .ok (.iconst 0, 1) := by decide +kernel
theorem dX10_same_11 : decode cX10_same 11 = .ok (.ireturn, 1) := by decide +kernel
theorem dX10_same_12 : decode cX10_same 12 = .ok (.aload_n 0, 1) := by decide +kernel
theorem dX10_same_13 : decode cX10_same 13 = .ok (.getfield 81, 3) := by decide +kernel
theorem dX10_same_16 : decode cX10_same 16 = .ok (.iconst 0, 1) := by decide +kernel
theorem dX10_same_17 : decode cX10_same 17 = .ok (.invokevirtual 185, 3) := by decide +kernel
theorem dX10_same_20 : decode cX10_same 20 = .ok (.istore_n 3, 1) := by decide +kernel
theorem dX10_same_21 : decode cX10_same 21 = .ok (.aload_n 0, 1) := by decide +kernel
theorem dX10_same_22 : decode cX10_same 22 = .ok (.getfield 81, 3) := by decide +kernel
theorem dX10_same_25 : decode cX10_same 25 = .ok (.aload_n 0, 1) := by decide +kernel
theorem dX10_same_26 : decode cX10_same 26 = .ok (.getfield 81, 3) := by decide +kernel
theorem dX10_same_29 : decode cX10_same 29 = .ok (.iload_n 3, 1) := by decide +kernel
theorem dX10_same_30 : decode cX10_same 30 = .ok (.iload_n 1, 1) := by decide +kernel
theorem dX10_same_31 : decode cX10_same 31 = .ok (.invokevirtual 195, 3) := by decide +kernel
theorem dX10_same_34 : decode cX10_same 34 = .ok (.aload_n 0, 1) := by decide +kernel
theorem dX10_same_35 : decode cX10_same 35 = .ok (.getfield 81, 3) := by decide +kernel
theorem dX10_same_38 : decode cX10_same 38 = .ok (.iload_n 3, 1) := by decide +kernel
theorem dX10_same_39 : decode cX10_same 39 = .ok (.iload_n 2, 1) := by decide +kernel
theorem dX10_same_40 : decode cX10_same 40 = .ok (.invokevirtual 195, 3) := by decide +kernel
theorem dX10_same_43 : decode cX10_same 43 = .ok (.invokevirtual 207, 3) := by decide +kernel
theorem dX10_same_46 : decode cX10_same 46 = .ok (.ireturn, 1) := by decide +kernel
def wp_X10_same : List Cond := .code yX10_same cX10_same 4 (some .boolean) :: ((((([.fieldLink RX10 72 "SteadyMachine" "runner" "LSteadyMachine$Runner;", .fieldLink RX10 103 "SteadyMachine$Runner" "state" "I", .fieldLink RX10 81 "SteadyMachine" "view" "LSteadyMachine$View;"] ++ (wsV RX10 185 RX9 yX9_frameAt wp_X9_frameAt)) ++ (wsV RX10 195 RX9 yX9_ofPlace wp_X9_ofPlace)) ++ (wsV RX10 207 RX9 yX9_alike wp_X9_alike)) ++ wsX100) ++ wsX70)
theorem wq_X10_same : wp_X10_same.all goodWord = true := wa_c rfl (wa_a (wa_a (wa_a (wa_a (wa_a (by decide +kernel) (wa_V wq_X9_frameAt)) (wa_V wq_X9_ofPlace)) (wa_V wq_X9_alike)) uq_X10) uq_X7)
theorem wt_X10_same : GoodIn lw_tbl wp_X10_same := wm_c (List.mem_of_getElem? (i := 1167) (by decide +kernel)) rfl (wm_a (wm_a (wm_a (wm_a (wm_a (goodIn_r _ [580, 518, 581] (by decide +kernel) (by decide +kernel)) (wm_a (goodIn_r _ [1110, 1111, 1112, 146] (by decide +kernel) (by decide +kernel)) wt_X9_frameAt)) (wm_a (goodIn_r _ [1137, 1138, 1139, 146] (by decide +kernel) (by decide +kernel)) wt_X9_ofPlace)) (wm_a (goodIn_r _ [1168, 1169, 1170, 146] (by decide +kernel) (by decide +kernel)) wt_X9_alike)) ut_X10) ut_X7)
theorem wg_X10_same_X9_frameAt_185 : GoodIn wp_X10_same (wsV RX10 185 RX9 yX9_frameAt wp_X9_frameAt) := goodIn_sub (fun w h => List.mem_cons_of_mem _ (List.mem_append_left _ (List.mem_append_left _ (List.mem_append_left _ (List.mem_append_left _ (List.mem_append_right _ h)))))) (wa_V wq_X9_frameAt)
theorem wg_X10_same_X9_ofPlace_195 : GoodIn wp_X10_same (wsV RX10 195 RX9 yX9_ofPlace wp_X9_ofPlace) := goodIn_sub (fun w h => List.mem_cons_of_mem _ (List.mem_append_left _ (List.mem_append_left _ (List.mem_append_left _ (List.mem_append_right _ h))))) (wa_V wq_X9_ofPlace)
theorem wg_X10_same_X9_alike_207 : GoodIn wp_X10_same (wsV RX10 207 RX9 yX9_alike wp_X9_alike) := goodIn_sub (fun w h => List.mem_cons_of_mem _ (List.mem_append_left _ (List.mem_append_left _ (List.mem_append_right _ h)))) (wa_V wq_X9_alike)
theorem wi_X10_same_X10 : ∀ w ∈ wsX100, w ∈ wp_X10_same := fun w h => List.mem_cons_of_mem _ (List.mem_append_left _ (List.mem_append_right _ h))
theorem wi_X10_same_X7 : ∀ w ∈ wsX70, w ∈ wp_X10_same := fun w h => List.mem_cons_of_mem _ (List.mem_append_right _ h)
set_option maxHeartbeats 4000000 in
set_option maxRecDepth 100000 in
theorem c_X10_same (l : Launch) (D : va_G) (sz t0 : Nat) (σ : sm_S) (α : sm_A) (p1 : Int32) (p2 : Int32) (K : Int32 → sm_S → Prop) (hF : mp_X10_same σ p1 p2 K) : Met l yX10_same wp_X10_same { frames := 3, cells := 0, slots := 0, locals := 71 } (sm_P sm_wX sm_tX 37 D sz t0 σ α [.ref (α.1 10), .int p1, .int p2]) (va_Qi K (sm_B sm_wX D α) (sm_a α 37 sz)) 0 0 (sm_a α 37 sz) := by
  refine Met.ofW (cc := cX10_same) (maxL := 4) (ret := (some .boolean)) (by decide) rfl ?_
  intro p e s m args below meth c s₁ B hml hv
  obtain ⟨rfl, hsz, hP, hK, hD0, hE⟩ := hv
  have hx := B.exec
  have hb := B.bytes
  have hr := B.returns
  have hts := atoms_spec (ws := wp_X10_same) B.pre
  have hown : s.vm.findClass RX10 = some m.cls := findClass_of_methodNamed B.named
  have hlocks := B.notSynchronized
  subst hsz
  have hD : sm_D (sm_a α 37 s.heap.size) α 37 := hD0.own
  have hA : ∀ q : Nat, s.heap.size ≤ q → sm_a α 37 s.heap.size q := fun q h => Or.inr h
  generalize hAe : sm_a α 37 s.heap.size = A at hD hA hE ⊢
  have hS : va_S A s.heap s.heap [] := va_S.rf
  have in_X10 : ∀ w ∈ wsX100, w ∈ wp_X10_same := wi_X10_same_X10
  have in_X7 : ∀ w ∈ wsX70, w ∈ wp_X10_same := wi_X10_same_X7
  have k_0 := hts (.fieldLink RX10 72 "SteadyMachine" "runner" "LSteadyMachine$Runner;") (by decide +kernel)
  have k_1 := hts (.fieldLink RX10 103 "SteadyMachine$Runner" "state" "I") (by decide +kernel)
  have k_2 := hts (.fieldLink RX10 81 "SteadyMachine" "view" "LSteadyMachine$View;") (by decide +kernel)
  have hl := lv_entry ([.ref (α.1 10), .int p1, .int p2]) (n := 4) (Nat.le_of_ble_eq_true rfl)
  rw [lg_entry_eq]
  generalize (lg_sl ([.ref (α.1 10), .int p1, .int p2]) ++ List.replicate (4 - (lg_sl ([.ref (α.1 10), .int p1, .int p2])).length) Slot.unset).toArray = ls at hl ⊢
  have hl : lv_has ls 4 [(0, .ref (α.1 10)), (1, .int p1), (2, .int p2)] := hl
  unfold mp_X10_same at hF
  revert hP hS
  generalize hLo : ([] : List Loc) = locs
  suffices h9 : ∀ (H : Heap) (locs : List Loc), va_P D vwCl (sm_wX σ α) H → va_S A s.heap H locs → W p l e (headSpec wp_X10_same { frames := 3, cells := 0, slots := 0, locals := 71 }).room s m ([.ref (α.1 10), .int p1, .int p2] : List Value).toArray below meth c H locs 0 0 (MQ below (va_Qi K (sm_B sm_wX D α) A) ([.ref (α.1 10), .int p1, .int p2] : List Value).toArray s 0 0 A) (F0 m 0 ls []) from fun hP hS => h9 s.heap locs hP hS
  intro H locs hP hS
  refine lv_aload_n hx hb dX10_same_0 rfl (lv_at hl 0 rfl) ?_
  refine va_get (D := D) (ci := 10) (v := .ref (α.1 7)) (C := RX10) (T := TX10) (N := 11) hx hb hts in_X10 hown hK hP 10 (sm_gX10 σ α) rfl 9 (by decide) k_0 (fun _ h9 => h9) rfl dX10_same_1 ?_
  refine va_get (D := D) (ci := 7) (v := .int (σ.1 22)) (C := RX7) (T := TX7) (N := 13) hx hb hts in_X7 hown hK hP 7 (sm_gX7 σ α) rfl 5 (by decide) k_1 (fun _ h9 => h9) rfl dX10_same_4 ?_
  refine lv_if_ne (tgt := 12) hx hb dX10_same_7 (by decide) (fun h1 => ?_) (fun h1 => ?_)
  · replace hF := hF.1 h1
    refine lv_aload_n hx hb dX10_same_12 rfl (lv_at hl 0 rfl) ?_
    refine va_get (D := D) (ci := 10) (v := .ref (α.1 9)) (C := RX10) (T := TX10) (N := 11) hx hb hts in_X10 hown hK hP 10 (sm_gX10 σ α) rfl 10 (by decide) k_2 (fun _ h9 => h9) rfl dX10_same_13 ?_
    refine lv_iconst (v := 0) hx hb dX10_same_16 (by decide) ?_
    refine sm_vi (As := [.int 0]) (rest := []) hP hK hD hE hS hA ⟨hx, hb, hml, hown, hts⟩ hl.1 (c_X9_frameAt l D H.size t0 σ α 0 _ hF) (cwV 1 hts wg_X10_same_X9_frameAt_185 rfl rfl rfl (by decide +kernel) ⟨Nat.le_of_ble_eq_true rfl, Nat.le_of_ble_eq_true rfl⟩) (va_recv hK hP (ci := 9) (q0 := 9) rfl (sm_gX9 σ α)) rfl rfl (Nat.le_of_ble_eq_true rfl) dX10_same_17 ⟨Nat.zero_le _, Nat.zero_le _⟩ (fun r3 σ2 H locs hF hP hS => ?_)
    refine lv_istore_n (lv' := [(3, .int r3), (0, .ref (α.1 10)), (1, .int p1), (2, .int p2)]) hx hb dX10_same_20 rfl hl (by decide) rfl (fun ls hl => ?_)
    refine lv_aload_n hx hb dX10_same_21 rfl (lv_at hl 1 rfl) ?_
    refine va_get (D := D) (ci := 10) (v := .ref (α.1 9)) (C := RX10) (T := TX10) (N := 11) hx hb hts in_X10 hown hK hP 10 (sm_gX10 σ2 α) rfl 10 (by decide) k_2 (fun _ h9 => h9) rfl dX10_same_22 ?_
    refine lv_aload_n hx hb dX10_same_25 rfl (lv_at hl 1 rfl) ?_
    refine va_get (D := D) (ci := 10) (v := .ref (α.1 9)) (C := RX10) (T := TX10) (N := 11) hx hb hts in_X10 hown hK hP 10 (sm_gX10 σ2 α) rfl 10 (by decide) k_2 (fun _ h9 => h9) rfl dX10_same_26 ?_
    refine lv_iload_n hx hb dX10_same_29 rfl (lv_at hl 0 rfl) ?_
    refine lv_iload_n hx hb dX10_same_30 rfl (lv_at hl 2 rfl) ?_
    refine sm_vl (As := [.int r3, .int p1]) (rest := [.ref (α.1 9)]) hP hK hD hE hS hA ⟨hx, hb, hml, hown, hts⟩ hl.1 (c_X9_ofPlace l D H.size t0 σ2 α r3 p1 _ hF) (cwV 2 hts wg_X10_same_X9_ofPlace_195 rfl rfl rfl (by decide +kernel) ⟨Nat.le_of_ble_eq_true rfl, Nat.le_of_ble_eq_true rfl⟩) (va_recv hK hP (ci := 9) (q0 := 9) rfl (sm_gX9 σ2 α)) rfl rfl (Nat.le_of_ble_eq_true rfl) dX10_same_31 ⟨Nat.zero_le _, Nat.zero_le _⟩ (fun r5 σ4 H locs hF hP hS => ?_)
    refine lv_aload_n hx hb dX10_same_34 rfl (lv_at hl 1 rfl) ?_
    refine va_get (D := D) (ci := 10) (v := .ref (α.1 9)) (C := RX10) (T := TX10) (N := 11) hx hb hts in_X10 hown hK hP 10 (sm_gX10 σ4 α) rfl 10 (by decide) k_2 (fun _ h9 => h9) rfl dX10_same_35 ?_
    refine lv_iload_n hx hb dX10_same_38 rfl (lv_at hl 0 rfl) ?_
    refine lv_iload_n hx hb dX10_same_39 rfl (lv_at hl 3 rfl) ?_
    refine sm_vl (As := [.int r3, .int p2]) (rest := [.long r5, .ref (α.1 9)]) hP hK hD hE hS hA ⟨hx, hb, hml, hown, hts⟩ hl.1 (c_X9_ofPlace l D H.size t0 σ4 α r3 p2 _ hF) (cwV 2 hts wg_X10_same_X9_ofPlace_195 rfl rfl rfl (by decide +kernel) ⟨Nat.le_of_ble_eq_true rfl, Nat.le_of_ble_eq_true rfl⟩) (va_recv hK hP (ci := 9) (q0 := 9) rfl (sm_gX9 σ4 α)) rfl rfl (Nat.le_of_ble_eq_true rfl) dX10_same_40 ⟨Nat.zero_le _, Nat.zero_le _⟩ (fun r7 σ6 H locs hF hP hS => ?_)
    refine sm_vi (As := [.long r5, .long r7]) (rest := []) hP hK hD hE hS hA ⟨hx, hb, hml, hown, hts⟩ hl.1 (c_X9_alike l D H.size t0 σ6 α r5 r7 _ hF) (cwV 2 hts wg_X10_same_X9_alike_207 rfl rfl rfl (by decide +kernel) ⟨Nat.le_of_ble_eq_true rfl, Nat.le_of_ble_eq_true rfl⟩) (va_recv hK hP (ci := 9) (q0 := 9) rfl (sm_gX9 σ6 α)) rfl rfl (Nat.le_of_ble_eq_true rfl) dX10_same_43 ⟨Nat.zero_le _, Nat.zero_le _⟩ (fun r9 σ8 H locs hF hP hS => ?_)
    obtain ⟨h10, hF⟩ := hF
    exact W.zret (v := r9) hx hb hr h10.1 (fun t ht hW => ⟨⟨r9, σ8, rfl, hF, (by unfold sm_B; rw [ht]; exact hP)⟩, hS.F ht⟩) hS.2.2 dX10_same_46
  · replace hF := hF.2 h1
    refine lv_iconst (v := 0) hx hb dX10_same_10 (by decide) ?_
    exact W.zret (v := 0) hx hb hr sm_z0.1 (fun t ht hW => ⟨⟨0, σ, rfl, hF, (by unfold sm_B; rw [ht]; exact hP)⟩, hS.F ht⟩) hS.2.2 dX10_same_11
theorem dX10_told_0 : decode cX10_told 0 = .ok (.aload_n 0, 1) := by decide +kernel
theorem dX10_told_1 : decode cX10_told 1 = .ok (.getfield 72, 3) := by decide +kernel
theorem dX10_told_4 : decode cX10_told 4 = .ok (.getfield 103, 3) := by decide +kernel
theorem dX10_told_7 : decode cX10_told 7 = .ok (.ifCond .ne 5, 3) := by decide +kernel
theorem dX10_told_10 : decode cX10_told 10 = .ok (.iconst (-1), 1) := by decide +kernel
theorem dX10_told_11 : decode cX10_told 11 = .ok (.ireturn, 1) := by decide +kernel
theorem dX10_told_12 : decode cX10_told 12 = .ok (.iload_n 1, 1) := by decide +kernel
theorem dX10_told_13 : decode cX10_told 13 = .ok (.tableswitch 97 0 4 #[35, 43, 59, 81, 89], 35) := by decide +kernel
theorem dX10_told_48 : decode cX10_told 48 = .ok (.aload_n 0, 1) := by decide +kernel
theorem dX10_told_49 : decode cX10_told 49 = .ok (.getfield 63, 3) := by decide +kernel
theorem dX10_told_52 : decode cX10_told 52 = .ok (.getfield 211, 3) := by decide +kernel
theorem dX10_told_55 : decode cX10_told 55 = .ok (.ireturn, 1) := by decide +kernel
theorem dX10_told_56 : decode cX10_told 56 = .ok (.aload_n 0, 1) := by decide +kernel
theorem dX10_told_57 : decode cX10_told 57 = .ok (.getfield 63, 3) := by decide +kernel
theorem dX10_told_60 : decode cX10_told 60 = .ok (.invokevirtual 214, 3) := by decide +kernel
theorem dX10_told_63 : decode cX10_told 63 = .ok (.ifCond .eq 7, 3) := by decide +kernel
theorem dX10_told_66 : decode cX10_told 66 = .ok (.iconst 1, 1) := by decide +kernel
theorem dX10_told_67 : decode cX10_told 67 = .ok (.goto 4, 3) := by decide +kernel
theorem dX10_told_70 : decode cX10_told 70 = .ok (.iconst 0, 1) := by decide +kernel
theorem dX10_told_71 : decode cX10_told 71 = .ok (.ireturn, 1) := by decide +kernel
theorem dX10_told_72 : decode cX10_told 72 = .ok (.aload_n 0, 1) := by decide +kernel
theorem dX10_told_73 : decode cX10_told 73 = .ok (.getfield 63, 3) := by decide +kernel
theorem dX10_told_76 : decode cX10_told 76 = .ok (.invokevirtual 214, 3) := by decide +kernel
theorem dX10_told_79 : decode cX10_told 79 = .ok (.ifCond .eq 13, 3) := by decide +kernel
theorem dX10_told_82 : decode cX10_told 82 = .ok (.aload_n 0, 1) := by decide +kernel
theorem dX10_told_83 : decode cX10_told 83 = .ok (.getfield 63, 3) := by decide +kernel
theorem dX10_told_86 : decode cX10_told 86 = .ok (.invokevirtual 217, 3) := by decide +kernel
theorem dX10_told_89 : decode cX10_told 89 = .ok (.goto 4, 3) := by decide +kernel
theorem dX10_told_92 : decode cX10_told 92 = .ok (.iconst (-1), 1) := by decide +kernel
theorem dX10_told_93 : decode cX10_told 93 = .ok (.ireturn, 1) := by decide +kernel
theorem dX10_told_94 : decode cX10_told 94 = .ok (.aload_n 0, 1) := by decide +kernel
theorem dX10_told_95 : decode cX10_told 95 = .ok (.getfield 63, 3) := by decide +kernel
theorem dX10_told_98 : decode cX10_told 98 = .ok (.getfield 220, 3) := by decide +kernel
theorem dX10_told_101 : decode cX10_told 101 = .ok (.ireturn, 1) := by decide +kernel
theorem dX10_told_102 : decode cX10_told 102 = .ok (.aload_n 0, 1) := by decide +kernel
theorem dX10_told_103 : decode cX10_told 103 = .ok (.getfield 63, 3) := by decide +kernel
theorem dX10_told_106 : decode cX10_told 106 = .ok (.getfield 223, 3) := by decide +kernel
theorem dX10_told_109 : decode cX10_told 109 = .ok (.ireturn, 1) := by decide +kernel
theorem dX10_told_110 : decode cX10_told 110 = .ok (.iconst (-1), 1) := by decide +kernel
theorem dX10_told_111 : decode cX10_told 111 = .ok (.ireturn, 1) := by decide +kernel
def wp_X10_told : List Cond := .code yX10_told cX10_told 2 (some .int) :: ((((([.fieldLink RX10 72 "SteadyMachine" "runner" "LSteadyMachine$Runner;", .fieldLink RX10 103 "SteadyMachine$Runner" "state" "I", .fieldLink RX10 63 "SteadyMachine" "heap" "LSteadyMachine$Heap;", .fieldLink RX10 211 "SteadyMachine$Heap" "cycles" "I", .fieldLink RX10 220 "SteadyMachine$Heap" "made" "I", .fieldLink RX10 223 "SteadyMachine$Heap" "limit" "I"] ++ (wsV RX10 214 RX1 yX1_isDone wp_X1_isDone)) ++ (wsV RX10 217 RX1 yX1_moved wp_X1_moved)) ++ wsX10) ++ wsX100) ++ wsX70)
theorem wq_X10_told : wp_X10_told.all goodWord = true := wa_c rfl (wa_a (wa_a (wa_a (wa_a (wa_a (by decide +kernel) (wa_V wq_X1_isDone)) (wa_V wq_X1_moved)) uq_X1) uq_X10) uq_X7)
theorem wt_X10_told : GoodIn lw_tbl wp_X10_told := wm_c (List.mem_of_getElem? (i := 1175) (by decide +kernel)) rfl (wm_a (wm_a (wm_a (wm_a (wm_a (goodIn_r _ [580, 518, 579, 461, 459, 457] (by decide +kernel) (by decide +kernel)) (wm_a (goodIn_r _ [1176, 890, 891, 144] (by decide +kernel) (by decide +kernel)) wt_X1_isDone)) (wm_a (goodIn_r _ [1177, 894, 895, 144] (by decide +kernel) (by decide +kernel)) wt_X1_moved)) ut_X1) ut_X10) ut_X7)
theorem wg_X10_told_X1_isDone_214 : GoodIn wp_X10_told (wsV RX10 214 RX1 yX1_isDone wp_X1_isDone) := goodIn_sub (fun w h => List.mem_cons_of_mem _ (List.mem_append_left _ (List.mem_append_left _ (List.mem_append_left _ (List.mem_append_left _ (List.mem_append_right _ h)))))) (wa_V wq_X1_isDone)
theorem wg_X10_told_X1_moved_217 : GoodIn wp_X10_told (wsV RX10 217 RX1 yX1_moved wp_X1_moved) := goodIn_sub (fun w h => List.mem_cons_of_mem _ (List.mem_append_left _ (List.mem_append_left _ (List.mem_append_left _ (List.mem_append_right _ h))))) (wa_V wq_X1_moved)
theorem wi_X10_told_X1 : ∀ w ∈ wsX10, w ∈ wp_X10_told := fun w h => List.mem_cons_of_mem _ (List.mem_append_left _ (List.mem_append_left _ (List.mem_append_right _ h)))
theorem wi_X10_told_X10 : ∀ w ∈ wsX100, w ∈ wp_X10_told := fun w h => List.mem_cons_of_mem _ (List.mem_append_left _ (List.mem_append_right _ h))
theorem wi_X10_told_X7 : ∀ w ∈ wsX70, w ∈ wp_X10_told := fun w h => List.mem_cons_of_mem _ (List.mem_append_right _ h)
set_option maxHeartbeats 4000000 in
set_option maxRecDepth 100000 in
theorem c_X10_told (l : Launch) (D : va_G) (sz t0 : Nat) (σ : sm_S) (α : sm_A) (p1 : Int32) (K : Int32 → sm_S → Prop) (hF : mp_X10_told σ p1 K) : Met l yX10_told wp_X10_told { frames := 2, cells := 0, slots := 0, locals := 40 } (sm_P sm_wX sm_tX 37 D sz t0 σ α [.ref (α.1 10), .int p1]) (va_Qi K (sm_B sm_wX D α) (sm_a α 37 sz)) 0 0 (sm_a α 37 sz) := by
  refine Met.ofW (cc := cX10_told) (maxL := 2) (ret := (some .int)) (by decide) rfl ?_
  intro p e s m args below meth c s₁ B hml hv
  obtain ⟨rfl, hsz, hP, hK, hD0, hE⟩ := hv
  have hx := B.exec
  have hb := B.bytes
  have hr := B.returns
  have hts := atoms_spec (ws := wp_X10_told) B.pre
  have hown : s.vm.findClass RX10 = some m.cls := findClass_of_methodNamed B.named
  have hlocks := B.notSynchronized
  subst hsz
  have hD : sm_D (sm_a α 37 s.heap.size) α 37 := hD0.own
  have hA : ∀ q : Nat, s.heap.size ≤ q → sm_a α 37 s.heap.size q := fun q h => Or.inr h
  generalize hAe : sm_a α 37 s.heap.size = A at hD hA hE ⊢
  have hS : va_S A s.heap s.heap [] := va_S.rf
  have in_X1 : ∀ w ∈ wsX10, w ∈ wp_X10_told := wi_X10_told_X1
  have in_X10 : ∀ w ∈ wsX100, w ∈ wp_X10_told := wi_X10_told_X10
  have in_X7 : ∀ w ∈ wsX70, w ∈ wp_X10_told := wi_X10_told_X7
  have k_0 := hts (.fieldLink RX10 72 "SteadyMachine" "runner" "LSteadyMachine$Runner;") (by decide +kernel)
  have k_1 := hts (.fieldLink RX10 103 "SteadyMachine$Runner" "state" "I") (by decide +kernel)
  have k_2 := hts (.fieldLink RX10 63 "SteadyMachine" "heap" "LSteadyMachine$Heap;") (by decide +kernel)
  have k_3 := hts (.fieldLink RX10 211 "SteadyMachine$Heap" "cycles" "I") (by decide +kernel)
  have k_4 := hts (.fieldLink RX10 220 "SteadyMachine$Heap" "made" "I") (by decide +kernel)
  have k_5 := hts (.fieldLink RX10 223 "SteadyMachine$Heap" "limit" "I") (by decide +kernel)
  have hl := lv_entry ([.ref (α.1 10), .int p1]) (n := 2) (Nat.le_of_ble_eq_true rfl)
  rw [lg_entry_eq]
  generalize (lg_sl ([.ref (α.1 10), .int p1]) ++ List.replicate (2 - (lg_sl ([.ref (α.1 10), .int p1])).length) Slot.unset).toArray = ls at hl ⊢
  have hl : lv_has ls 2 [(0, .ref (α.1 10)), (1, .int p1)] := hl
  have B93 : ∀ (σ : sm_S) (y0 : Int32), mp_X10_told_93 K σ y0 → sm_J p l e (headSpec wp_X10_told { frames := 2, cells := 0, slots := 0, locals := 40 }).room s m ([.ref (α.1 10), .int p1] : List Value).toArray below meth c (MQ below (va_Qi K (sm_B sm_wX D α) A) ([.ref (α.1 10), .int p1] : List Value).toArray s 0 0 A) D A 2 (sm_wX σ α) 93 [] [.int y0] := by
    intro σ y0 hF H locs ls hP hS hl
    unfold mp_X10_told_93 at hF
    exact W.iret (v := y0) hx hb hr (fun t ht hW => ⟨⟨y0, σ, rfl, hF, (by unfold sm_B; rw [ht]; exact hP)⟩, hS.F ht⟩) hS.2.2 dX10_told_93
  have B71 : ∀ (σ : sm_S) (y0 : Int32), mp_X10_told_71 K σ y0 → sm_J p l e (headSpec wp_X10_told { frames := 2, cells := 0, slots := 0, locals := 40 }).room s m ([.ref (α.1 10), .int p1] : List Value).toArray below meth c (MQ below (va_Qi K (sm_B sm_wX D α) A) ([.ref (α.1 10), .int p1] : List Value).toArray s 0 0 A) D A 2 (sm_wX σ α) 71 [] [.int y0] := by
    intro σ y0 hF H locs ls hP hS hl
    unfold mp_X10_told_71 at hF
    exact W.iret (v := y0) hx hb hr (fun t ht hW => ⟨⟨y0, σ, rfl, hF, (by unfold sm_B; rw [ht]; exact hP)⟩, hS.F ht⟩) hS.2.2 dX10_told_71
  unfold mp_X10_told at hF
  revert hP hS
  generalize hLo : ([] : List Loc) = locs
  suffices h9 : ∀ (H : Heap) (locs : List Loc), va_P D vwCl (sm_wX σ α) H → va_S A s.heap H locs → W p l e (headSpec wp_X10_told { frames := 2, cells := 0, slots := 0, locals := 40 }).room s m ([.ref (α.1 10), .int p1] : List Value).toArray below meth c H locs 0 0 (MQ below (va_Qi K (sm_B sm_wX D α) A) ([.ref (α.1 10), .int p1] : List Value).toArray s 0 0 A) (F0 m 0 ls []) from fun hP hS => h9 s.heap locs hP hS
  intro H locs hP hS
  refine lv_aload_n hx hb dX10_told_0 rfl (lv_at hl 0 rfl) ?_
  refine va_get (D := D) (ci := 10) (v := .ref (α.1 7)) (C := RX10) (T := TX10) (N := 11) hx hb hts in_X10 hown hK hP 10 (sm_gX10 σ α) rfl 9 (by decide) k_0 (fun _ h9 => h9) rfl dX10_told_1 ?_
  refine va_get (D := D) (ci := 7) (v := .int (σ.1 22)) (C := RX7) (T := TX7) (N := 13) hx hb hts in_X7 hown hK hP 7 (sm_gX7 σ α) rfl 5 (by decide) k_1 (fun _ h9 => h9) rfl dX10_told_4 ?_
  refine lv_if_ne (tgt := 12) hx hb dX10_told_7 (by decide) (fun h1 => ?_) (fun h1 => ?_)
  · replace hF := hF.1 h1
    refine lv_iload_n hx hb dX10_told_12 rfl (lv_at hl 1 rfl) ?_
    by_cases h2 : p1 = 0
    · refine lv_tableIn (tgt := 48) hx hb dX10_told_13 (by rw [h2]; decide) (by rw [h2]; decide) (by rw [h2]; rfl) (by decide) ?_
      replace hF := hF.1 h2
      refine lv_aload_n hx hb dX10_told_48 rfl (lv_at hl 0 rfl) ?_
      refine va_get (D := D) (ci := 10) (v := .ref (α.1 1)) (C := RX10) (T := TX10) (N := 11) hx hb hts in_X10 hown hK hP 10 (sm_gX10 σ α) rfl 8 (by decide) k_2 (fun _ h9 => h9) rfl dX10_told_49 ?_
      refine va_get (D := D) (ci := 1) (v := .int (σ.1 9)) (C := RX1) (T := TX1) (N := 16) hx hb hts in_X1 hown hK hP 1 (sm_gX1 σ α) rfl 11 (by decide) k_3 (fun _ h9 => h9) rfl dX10_told_52 ?_
      exact W.iret (v := (σ.1 9)) hx hb hr (fun t ht hW => ⟨⟨(σ.1 9), σ, rfl, hF, (by unfold sm_B; rw [ht]; exact hP)⟩, hS.F ht⟩) hS.2.2 dX10_told_55
    by_cases h3 : p1 = 1
    · refine lv_tableIn (tgt := 56) hx hb dX10_told_13 (by rw [h3]; decide) (by rw [h3]; decide) (by rw [h3]; rfl) (by decide) ?_
      replace hF := hF.2.1 h3
      refine lv_aload_n hx hb dX10_told_56 rfl (lv_at hl 0 rfl) ?_
      refine va_get (D := D) (ci := 10) (v := .ref (α.1 1)) (C := RX10) (T := TX10) (N := 11) hx hb hts in_X10 hown hK hP 10 (sm_gX10 σ α) rfl 8 (by decide) k_2 (fun _ h9 => h9) rfl dX10_told_57 ?_
      refine sm_vi (As := []) (rest := []) hP hK hD hE hS hA ⟨hx, hb, hml, hown, hts⟩ hl.1 (c_X1_isDone l D H.size t0 σ α _ hF) (cwV 0 hts wg_X10_told_X1_isDone_214 rfl rfl rfl (by decide +kernel) ⟨Nat.le_of_ble_eq_true rfl, Nat.le_of_ble_eq_true rfl⟩) (va_recv hK hP (ci := 1) (q0 := 1) rfl (sm_gX1 σ α)) rfl rfl (Nat.le_of_ble_eq_true rfl) dX10_told_60 ⟨Nat.zero_le _, Nat.zero_le _⟩ (fun r5 σ4 H locs hF hP hS => ?_)
      refine lv_if_eq (tgt := 70) hx hb dX10_told_63 (by decide) (fun h6 => ?_) (fun h6 => ?_)
      · replace hF := hF.1 h6
        refine lv_iconst (v := 0) hx hb dX10_told_70 (by decide) ?_
        exact B71 σ4 0 hF H locs ls hP hS (lv_sub hl [] rfl)
      · replace hF := hF.2 h6
        refine lv_iconst (v := 1) hx hb dX10_told_66 (by decide) ?_
        refine lv_goto (tgt := 71) hx hb dX10_told_67 (by decide) ?_
        exact B71 σ4 1 hF H locs ls hP hS (lv_sub hl [] rfl)
    by_cases h7 : p1 = 2
    · refine lv_tableIn (tgt := 72) hx hb dX10_told_13 (by rw [h7]; decide) (by rw [h7]; decide) (by rw [h7]; rfl) (by decide) ?_
      replace hF := hF.2.2.1 h7
      refine lv_aload_n hx hb dX10_told_72 rfl (lv_at hl 0 rfl) ?_
      refine va_get (D := D) (ci := 10) (v := .ref (α.1 1)) (C := RX10) (T := TX10) (N := 11) hx hb hts in_X10 hown hK hP 10 (sm_gX10 σ α) rfl 8 (by decide) k_2 (fun _ h9 => h9) rfl dX10_told_73 ?_
      refine sm_vi (As := []) (rest := []) hP hK hD hE hS hA ⟨hx, hb, hml, hown, hts⟩ hl.1 (c_X1_isDone l D H.size t0 σ α _ hF) (cwV 0 hts wg_X10_told_X1_isDone_214 rfl rfl rfl (by decide +kernel) ⟨Nat.le_of_ble_eq_true rfl, Nat.le_of_ble_eq_true rfl⟩) (va_recv hK hP (ci := 1) (q0 := 1) rfl (sm_gX1 σ α)) rfl rfl (Nat.le_of_ble_eq_true rfl) dX10_told_76 ⟨Nat.zero_le _, Nat.zero_le _⟩ (fun r9 σ8 H locs hF hP hS => ?_)
      refine lv_if_eq (tgt := 92) hx hb dX10_told_79 (by decide) (fun h10 => ?_) (fun h10 => ?_)
      · replace hF := hF.1 h10
        refine lv_iconst (v := -1) hx hb dX10_told_92 (by decide) ?_
        exact B93 σ8 (-1) hF H locs ls hP hS (lv_sub hl [] rfl)
      · replace hF := hF.2 h10
        refine lv_aload_n hx hb dX10_told_82 rfl (lv_at hl 0 rfl) ?_
        refine va_get (D := D) (ci := 10) (v := .ref (α.1 1)) (C := RX10) (T := TX10) (N := 11) hx hb hts in_X10 hown hK hP 10 (sm_gX10 σ8 α) rfl 8 (by decide) k_2 (fun _ h9 => h9) rfl dX10_told_83 ?_
        refine sm_vi (As := []) (rest := []) hP hK hD hE hS hA ⟨hx, hb, hml, hown, hts⟩ hl.1 (c_X1_moved l D H.size t0 σ8 α _ hF) (cwV 0 hts wg_X10_told_X1_moved_217 rfl rfl rfl (by decide +kernel) ⟨Nat.le_of_ble_eq_true rfl, Nat.le_of_ble_eq_true rfl⟩) (va_recv hK hP (ci := 1) (q0 := 1) rfl (sm_gX1 σ8 α)) rfl rfl (Nat.le_of_ble_eq_true rfl) dX10_told_86 ⟨Nat.zero_le _, Nat.zero_le _⟩ (fun r12 σ11 H locs hF hP hS => ?_)
        refine lv_goto (tgt := 93) hx hb dX10_told_89 (by decide) ?_
        exact B93 σ11 r12 hF H locs ls hP hS (lv_sub hl [] rfl)
    by_cases h13 : p1 = 3
    · refine lv_tableIn (tgt := 94) hx hb dX10_told_13 (by rw [h13]; decide) (by rw [h13]; decide) (by rw [h13]; rfl) (by decide) ?_
      replace hF := hF.2.2.2.1 h13
      refine lv_aload_n hx hb dX10_told_94 rfl (lv_at hl 0 rfl) ?_
      refine va_get (D := D) (ci := 10) (v := .ref (α.1 1)) (C := RX10) (T := TX10) (N := 11) hx hb hts in_X10 hown hK hP 10 (sm_gX10 σ α) rfl 8 (by decide) k_2 (fun _ h9 => h9) rfl dX10_told_95 ?_
      refine va_get (D := D) (ci := 1) (v := .int (σ.1 8)) (C := RX1) (T := TX1) (N := 16) hx hb hts in_X1 hown hK hP 1 (sm_gX1 σ α) rfl 10 (by decide) k_4 (fun _ h9 => h9) rfl dX10_told_98 ?_
      exact W.iret (v := (σ.1 8)) hx hb hr (fun t ht hW => ⟨⟨(σ.1 8), σ, rfl, hF, (by unfold sm_B; rw [ht]; exact hP)⟩, hS.F ht⟩) hS.2.2 dX10_told_101
    by_cases h14 : p1 = 4
    · refine lv_tableIn (tgt := 102) hx hb dX10_told_13 (by rw [h14]; decide) (by rw [h14]; decide) (by rw [h14]; rfl) (by decide) ?_
      replace hF := hF.2.2.2.2.1 h14
      refine lv_aload_n hx hb dX10_told_102 rfl (lv_at hl 0 rfl) ?_
      refine va_get (D := D) (ci := 10) (v := .ref (α.1 1)) (C := RX10) (T := TX10) (N := 11) hx hb hts in_X10 hown hK hP 10 (sm_gX10 σ α) rfl 8 (by decide) k_2 (fun _ h9 => h9) rfl dX10_told_103 ?_
      refine va_get (D := D) (ci := 1) (v := .int (σ.1 7)) (C := RX1) (T := TX1) (N := 16) hx hb hts in_X1 hown hK hP 1 (sm_gX1 σ α) rfl 9 (by decide) k_5 (fun _ h9 => h9) rfl dX10_told_106 ?_
      exact W.iret (v := (σ.1 7)) hx hb hr (fun t ht hW => ⟨⟨(σ.1 7), σ, rfl, hF, (by unfold sm_B; rw [ht]; exact hP)⟩, hS.F ht⟩) hS.2.2 dX10_told_109
    refine lv_tableOut (tgt := 110) hx hb dX10_told_13 (by have q0 := lv_neT h2 (show Int32.toInt 0 = 0 by decide); have q1 := lv_neT h3 (show Int32.toInt 1 = 1 by decide); have q2 := lv_neT h7 (show Int32.toInt 2 = 2 by decide); have q3 := lv_neT h13 (show Int32.toInt 3 = 3 by decide); have q4 := lv_neT h14 (show Int32.toInt 4 = 4 by decide); omega) (by decide) ?_
    replace hF := hF.2.2.2.2.2 h2 h3 h7 h13 h14
    refine lv_iconst (v := -1) hx hb dX10_told_110 (by decide) ?_
    exact W.iret (v := (-1)) hx hb hr (fun t ht hW => ⟨⟨(-1), σ, rfl, hF, (by unfold sm_B; rw [ht]; exact hP)⟩, hS.F ht⟩) hS.2.2 dX10_told_111
  · replace hF := hF.2 h1
    refine lv_iconst (v := -1) hx hb dX10_told_10 (by decide) ?_
    exact W.iret (v := (-1)) hx hb hr (fun t ht hW => ⟨⟨(-1), σ, rfl, hF, (by unfold sm_B; rw [ht]; exact hP)⟩, hS.F ht⟩) hS.2.2 dX10_told_11
theorem dX10_steady_0 : decode cX10_steady 0 = .ok (.aload_n 0, 1) := by decide +kernel
theorem dX10_steady_1 : decode cX10_steady 1 = .ok (.getfield 72, 3) := by decide +kernel
theorem dX10_steady_4 : decode cX10_steady 4 = .ok (.getfield 103, 3) := by decide +kernel
theorem dX10_steady_7 : decode cX10_steady 7 = .ok (.ifCond .eq 13, 3) := by decide +kernel
theorem dX10_steady_10 : decode cX10_steady 10 = .ok (.aload_n 0, 1) := by decide +kernel
theorem dX10_steady_11 : decode cX10_steady 11 = .ok (.getfield 63, 3) := by decide +kernel
theorem dX10_steady_14 : decode cX10_steady 14 = .ok (.getfield 226, 3) := by decide +kernel
theorem dX10_steady_17 : decode cX10_steady 17 = .ok (.ifCond .eq 7, 3) := by decide +kernel
theorem dX10_steady_20 : decode cX10_steady 20 = .ok (.iconst 1, 1) := by decide +kernel
theorem dX10_steady_21 : decode cX10_steady 21 = .ok (.goto 4, 3) := by decide +kernel
theorem dX10_steady_24 : decode cX10_steady 24 = .ok (.iconst 0, 1) := by decide +kernel
theorem dX10_steady_25 : decode cX10_steady 25 = .ok (.ireturn, 1) := by decide +kernel
def wp_X10_steady : List Cond := .code yX10_steady cX10_steady 1 (some .boolean) :: ((([.fieldLink RX10 72 "SteadyMachine" "runner" "LSteadyMachine$Runner;", .fieldLink RX10 103 "SteadyMachine$Runner" "state" "I", .fieldLink RX10 63 "SteadyMachine" "heap" "LSteadyMachine$Heap;", .fieldLink RX10 226 "SteadyMachine$Heap" "steady" "Z"] ++ wsX10) ++ wsX100) ++ wsX70)
theorem wq_X10_steady : wp_X10_steady.all goodWord = true := wa_c rfl (wa_a (wa_a (wa_a (by decide +kernel) uq_X1) uq_X10) uq_X7)
theorem wt_X10_steady : GoodIn lw_tbl wp_X10_steady := wm_c (List.mem_of_getElem? (i := 1181) (by decide +kernel)) rfl (wm_a (wm_a (wm_a (goodIn_r _ [580, 518, 579, 470] (by decide +kernel) (by decide +kernel)) ut_X1) ut_X10) ut_X7)
theorem wi_X10_steady_X1 : ∀ w ∈ wsX10, w ∈ wp_X10_steady := fun w h => List.mem_cons_of_mem _ (List.mem_append_left _ (List.mem_append_left _ (List.mem_append_right _ h)))
theorem wi_X10_steady_X10 : ∀ w ∈ wsX100, w ∈ wp_X10_steady := fun w h => List.mem_cons_of_mem _ (List.mem_append_left _ (List.mem_append_right _ h))
theorem wi_X10_steady_X7 : ∀ w ∈ wsX70, w ∈ wp_X10_steady := fun w h => List.mem_cons_of_mem _ (List.mem_append_right _ h)
set_option maxHeartbeats 4000000 in
set_option maxRecDepth 100000 in
theorem c_X10_steady (l : Launch) (D : va_G) (sz t0 : Nat) (σ : sm_S) (α : sm_A) (K : Int32 → sm_S → Prop) (hF : mp_X10_steady σ K) : Met l yX10_steady wp_X10_steady { frames := 0, cells := 0, slots := 0, locals := 0 } (sm_P sm_wX sm_tX 37 D sz t0 σ α [.ref (α.1 10)]) (va_Qi K (sm_B sm_wX D α) (sm_a α 37 sz)) 0 0 (sm_a α 37 sz) := by
  refine Met.ofW (cc := cX10_steady) (maxL := 1) (ret := (some .boolean)) (by decide) rfl ?_
  intro p e s m args below meth c s₁ B hml hv
  obtain ⟨rfl, hsz, hP, hK, hD0, hE⟩ := hv
  have hx := B.exec
  have hb := B.bytes
  have hr := B.returns
  have hts := atoms_spec (ws := wp_X10_steady) B.pre
  have hown : s.vm.findClass RX10 = some m.cls := findClass_of_methodNamed B.named
  have hlocks := B.notSynchronized
  subst hsz
  have hD : sm_D (sm_a α 37 s.heap.size) α 37 := hD0.own
  have hA : ∀ q : Nat, s.heap.size ≤ q → sm_a α 37 s.heap.size q := fun q h => Or.inr h
  generalize hAe : sm_a α 37 s.heap.size = A at hD hA hE ⊢
  have hS : va_S A s.heap s.heap [] := va_S.rf
  have in_X1 : ∀ w ∈ wsX10, w ∈ wp_X10_steady := wi_X10_steady_X1
  have in_X10 : ∀ w ∈ wsX100, w ∈ wp_X10_steady := wi_X10_steady_X10
  have in_X7 : ∀ w ∈ wsX70, w ∈ wp_X10_steady := wi_X10_steady_X7
  have k_0 := hts (.fieldLink RX10 72 "SteadyMachine" "runner" "LSteadyMachine$Runner;") (by decide +kernel)
  have k_1 := hts (.fieldLink RX10 103 "SteadyMachine$Runner" "state" "I") (by decide +kernel)
  have k_2 := hts (.fieldLink RX10 63 "SteadyMachine" "heap" "LSteadyMachine$Heap;") (by decide +kernel)
  have k_3 := hts (.fieldLink RX10 226 "SteadyMachine$Heap" "steady" "Z") (by decide +kernel)
  have hl := lv_entry ([.ref (α.1 10)]) (n := 1) (Nat.le_of_ble_eq_true rfl)
  rw [lg_entry_eq]
  generalize (lg_sl ([.ref (α.1 10)]) ++ List.replicate (1 - (lg_sl ([.ref (α.1 10)])).length) Slot.unset).toArray = ls at hl ⊢
  have hl : lv_has ls 1 [(0, .ref (α.1 10))] := hl
  have B25 : ∀ (σ : sm_S) (y0 : Int32), mp_X10_steady_25 K σ y0 → sm_J p l e (headSpec wp_X10_steady { frames := 0, cells := 0, slots := 0, locals := 0 }).room s m ([.ref (α.1 10)] : List Value).toArray below meth c (MQ below (va_Qi K (sm_B sm_wX D α) A) ([.ref (α.1 10)] : List Value).toArray s 0 0 A) D A 1 (sm_wX σ α) 25 [] [.int y0] := by
    intro σ y0 hF H locs ls hP hS hl
    unfold mp_X10_steady_25 at hF
    obtain ⟨h1, hF⟩ := hF
    exact W.zret (v := y0) hx hb hr h1.1 (fun t ht hW => ⟨⟨y0, σ, rfl, hF, (by unfold sm_B; rw [ht]; exact hP)⟩, hS.F ht⟩) hS.2.2 dX10_steady_25
  have B20 : ∀ (σ : sm_S), mp_X10_steady_20 K σ → sm_J p l e (headSpec wp_X10_steady { frames := 0, cells := 0, slots := 0, locals := 0 }).room s m ([.ref (α.1 10)] : List Value).toArray below meth c (MQ below (va_Qi K (sm_B sm_wX D α) A) ([.ref (α.1 10)] : List Value).toArray s 0 0 A) D A 1 (sm_wX σ α) 20 [] [] := by
    intro σ hF H locs ls hP hS hl
    unfold mp_X10_steady_20 at hF
    refine lv_iconst (v := 1) hx hb dX10_steady_20 (by decide) ?_
    refine lv_goto (tgt := 25) hx hb dX10_steady_21 (by decide) ?_
    exact B25 σ 1 hF H locs ls hP hS (lv_sub hl [] rfl)
  unfold mp_X10_steady at hF
  revert hP hS
  generalize hLo : ([] : List Loc) = locs
  suffices h9 : ∀ (H : Heap) (locs : List Loc), va_P D vwCl (sm_wX σ α) H → va_S A s.heap H locs → W p l e (headSpec wp_X10_steady { frames := 0, cells := 0, slots := 0, locals := 0 }).room s m ([.ref (α.1 10)] : List Value).toArray below meth c H locs 0 0 (MQ below (va_Qi K (sm_B sm_wX D α) A) ([.ref (α.1 10)] : List Value).toArray s 0 0 A) (F0 m 0 ls []) from fun hP hS => h9 s.heap locs hP hS
  intro H locs hP hS
  refine lv_aload_n hx hb dX10_steady_0 rfl (lv_at hl 0 rfl) ?_
  refine va_get (D := D) (ci := 10) (v := .ref (α.1 7)) (C := RX10) (T := TX10) (N := 11) hx hb hts in_X10 hown hK hP 10 (sm_gX10 σ α) rfl 9 (by decide) k_0 (fun _ h9 => h9) rfl dX10_steady_1 ?_
  refine va_get (D := D) (ci := 7) (v := .int (σ.1 22)) (C := RX7) (T := TX7) (N := 13) hx hb hts in_X7 hown hK hP 7 (sm_gX7 σ α) rfl 5 (by decide) k_1 (fun _ h9 => h9) rfl dX10_steady_4 ?_
  refine lv_if_eq (tgt := 20) hx hb dX10_steady_7 (by decide) (fun h2 => ?_) (fun h2 => ?_)
  · replace hF := hF.1 h2
    exact B20 σ hF H locs ls hP hS (lv_sub hl [] rfl)
  · replace hF := hF.2 h2
    refine lv_aload_n hx hb dX10_steady_10 rfl (lv_at hl 0 rfl) ?_
    refine va_get (D := D) (ci := 10) (v := .ref (α.1 1)) (C := RX10) (T := TX10) (N := 11) hx hb hts in_X10 hown hK hP 10 (sm_gX10 σ α) rfl 8 (by decide) k_2 (fun _ h9 => h9) rfl dX10_steady_11 ?_
    refine va_get (D := D) (ci := 1) (v := .int (σ.1 12)) (C := RX1) (T := TX1) (N := 16) hx hb hts in_X1 hown hK hP 1 (sm_gX1 σ α) rfl 14 (by decide) k_3 (fun _ h9 => h9) rfl dX10_steady_14 ?_
    refine lv_if_eq (tgt := 24) hx hb dX10_steady_17 (by decide) (fun h3 => ?_) (fun h3 => ?_)
    · replace hF := hF.1 h3
      refine lv_iconst (v := 0) hx hb dX10_steady_24 (by decide) ?_
      exact B25 σ 0 hF H locs ls hP hS (lv_sub hl [] rfl)
    · replace hF := hF.2 h3
      exact B20 σ hF H locs ls hP hS (lv_sub hl [] rfl)
theorem dX10_stands_0 : decode cX10_stands 0 = .ok (.aload_n 0, 1) := by decide +kernel
theorem dX10_stands_1 : decode cX10_stands 1 = .ok (.getfield 106, 3) := by decide +kernel
theorem dX10_stands_4 : decode cX10_stands 4 = .ok (.ifCond .eq 18, 3) := by decide +kernel
theorem dX10_stands_7 : decode cX10_stands 7 = .ok (.aload_n 0, 1) := by decide +kernel
theorem dX10_stands_8 : decode cX10_stands 8 = .ok (.getfield 39, 3) := by decide +kernel
theorem dX10_stands_11 : decode cX10_stands 11 = .ok (.iload_n 1, 1) := by decide +kernel
theorem dX10_stands_12 : decode cX10_stands 12 = .ok (.iload_n 2, 1) := by decide +kernel
theorem dX10_stands_13 : decode cX10_stands 13 = .ok (.iload_n 3, 1) := by decide +kernel
theorem dX10_stands_14 : decode cX10_stands 14 = .ok (.iload 4, 2) := by decide +kernel
theorem dX10_stands_16 : decode cX10_stands 16 = .ok (.invokevirtual 229, 3) := by decide +kernel
theorem dX10_stands_19 : decode cX10_stands 19 = .ok (.goto 4, 3) := by decide +kernel
theorem dX10_stands_22 : decode cX10_stands 22 = .ok (.iconst (-1), 1) := by decide +kernel
theorem dX10_stands_23 : decode cX10_stands 23 = .ok (.ireturn, 1) := by decide +kernel
def wp_X10_stands : List Cond := .code yX10_stands cX10_stands 5 (some .int) :: (([.fieldLink RX10 106 "SteadyMachine" "whole" "Z", .fieldLink RX10 39 "SteadyMachine" "verifier" "LSteadyMachine$Verifier;"] ++ (wsV RX10 229 RX8 yX8_found wp_X8_found)) ++ wsX100)
theorem wq_X10_stands : wp_X10_stands.all goodWord = true := wa_c rfl (wa_a (wa_a (by decide +kernel) (wa_V wq_X8_found)) uq_X10)
theorem wt_X10_stands : GoodIn lw_tbl wp_X10_stands := wm_c (List.mem_of_getElem? (i := 1185) (by decide +kernel)) rfl (wm_a (wm_a (goodIn_r _ [573, 577] (by decide +kernel) (by decide +kernel)) (wm_a (goodIn_r _ [1186, 1187, 1188, 142] (by decide +kernel) (by decide +kernel)) wt_X8_found)) ut_X10)
theorem wg_X10_stands_X8_found_229 : GoodIn wp_X10_stands (wsV RX10 229 RX8 yX8_found wp_X8_found) := goodIn_sub (fun w h => List.mem_cons_of_mem _ (List.mem_append_left _ (List.mem_append_right _ h))) (wa_V wq_X8_found)
theorem wi_X10_stands_X10 : ∀ w ∈ wsX100, w ∈ wp_X10_stands := fun w h => List.mem_cons_of_mem _ (List.mem_append_right _ h)
set_option maxHeartbeats 4000000 in
set_option maxRecDepth 100000 in
theorem c_X10_stands (l : Launch) (D : va_G) (sz t0 : Nat) (σ : sm_S) (α : sm_A) (p1 : Int32) (p2 : Int32) (p3 : Int32) (p4 : Int32) (K : Int32 → sm_S → Prop) (hF : mp_X10_stands σ p1 p2 p3 p4 K) : Met l yX10_stands wp_X10_stands { frames := 2, cells := 0, slots := 0, locals := 51 } (sm_P sm_wX sm_tX 37 D sz t0 σ α [.ref (α.1 10), .int p1, .int p2, .int p3, .int p4]) (va_Qi K (sm_B sm_wX D α) (sm_a α 37 sz)) 0 0 (sm_a α 37 sz) := by
  refine Met.ofW (cc := cX10_stands) (maxL := 5) (ret := (some .int)) (by decide) rfl ?_
  intro p e s m args below meth c s₁ B hml hv
  obtain ⟨rfl, hsz, hP, hK, hD0, hE⟩ := hv
  have hx := B.exec
  have hb := B.bytes
  have hr := B.returns
  have hts := atoms_spec (ws := wp_X10_stands) B.pre
  have hown : s.vm.findClass RX10 = some m.cls := findClass_of_methodNamed B.named
  have hlocks := B.notSynchronized
  subst hsz
  have hD : sm_D (sm_a α 37 s.heap.size) α 37 := hD0.own
  have hA : ∀ q : Nat, s.heap.size ≤ q → sm_a α 37 s.heap.size q := fun q h => Or.inr h
  generalize hAe : sm_a α 37 s.heap.size = A at hD hA hE ⊢
  have hS : va_S A s.heap s.heap [] := va_S.rf
  have in_X10 : ∀ w ∈ wsX100, w ∈ wp_X10_stands := wi_X10_stands_X10
  have k_0 := hts (.fieldLink RX10 106 "SteadyMachine" "whole" "Z") (by decide +kernel)
  have k_1 := hts (.fieldLink RX10 39 "SteadyMachine" "verifier" "LSteadyMachine$Verifier;") (by decide +kernel)
  have hl := lv_entry ([.ref (α.1 10), .int p1, .int p2, .int p3, .int p4]) (n := 5) (Nat.le_of_ble_eq_true rfl)
  rw [lg_entry_eq]
  generalize (lg_sl ([.ref (α.1 10), .int p1, .int p2, .int p3, .int p4]) ++ List.replicate (5 - (lg_sl ([.ref (α.1 10), .int p1, .int p2, .int p3, .int p4])).length) Slot.unset).toArray = ls at hl ⊢
  have hl : lv_has ls 5 [(0, .ref (α.1 10)), (1, .int p1), (2, .int p2), (3, .int p3), (4, .int p4)] := hl
  have B23 : ∀ (σ : sm_S) (y0 : Int32), mp_X10_stands_23 K σ y0 → sm_J p l e (headSpec wp_X10_stands { frames := 2, cells := 0, slots := 0, locals := 51 }).room s m ([.ref (α.1 10), .int p1, .int p2, .int p3, .int p4] : List Value).toArray below meth c (MQ below (va_Qi K (sm_B sm_wX D α) A) ([.ref (α.1 10), .int p1, .int p2, .int p3, .int p4] : List Value).toArray s 0 0 A) D A 5 (sm_wX σ α) 23 [] [.int y0] := by
    intro σ y0 hF H locs ls hP hS hl
    unfold mp_X10_stands_23 at hF
    exact W.iret (v := y0) hx hb hr (fun t ht hW => ⟨⟨y0, σ, rfl, hF, (by unfold sm_B; rw [ht]; exact hP)⟩, hS.F ht⟩) hS.2.2 dX10_stands_23
  unfold mp_X10_stands at hF
  revert hP hS
  generalize hLo : ([] : List Loc) = locs
  suffices h9 : ∀ (H : Heap) (locs : List Loc), va_P D vwCl (sm_wX σ α) H → va_S A s.heap H locs → W p l e (headSpec wp_X10_stands { frames := 2, cells := 0, slots := 0, locals := 51 }).room s m ([.ref (α.1 10), .int p1, .int p2, .int p3, .int p4] : List Value).toArray below meth c H locs 0 0 (MQ below (va_Qi K (sm_B sm_wX D α) A) ([.ref (α.1 10), .int p1, .int p2, .int p3, .int p4] : List Value).toArray s 0 0 A) (F0 m 0 ls []) from fun hP hS => h9 s.heap locs hP hS
  intro H locs hP hS
  refine lv_aload_n hx hb dX10_stands_0 rfl (lv_at hl 0 rfl) ?_
  refine va_get (D := D) (ci := 10) (v := .int (σ.1 36)) (C := RX10) (T := TX10) (N := 11) hx hb hts in_X10 hown hK hP 10 (sm_gX10 σ α) rfl 2 (by decide) k_0 (fun _ h9 => h9) rfl dX10_stands_1 ?_
  refine lv_if_eq (tgt := 22) hx hb dX10_stands_4 (by decide) (fun h1 => ?_) (fun h1 => ?_)
  · replace hF := hF.1 h1
    refine lv_iconst (v := -1) hx hb dX10_stands_22 (by decide) ?_
    exact B23 σ (-1) hF H locs ls hP hS (lv_sub hl [] rfl)
  · replace hF := hF.2 h1
    refine lv_aload_n hx hb dX10_stands_7 rfl (lv_at hl 0 rfl) ?_
    refine va_get (D := D) (ci := 10) (v := .ref (α.1 8)) (C := RX10) (T := TX10) (N := 11) hx hb hts in_X10 hown hK hP 10 (sm_gX10 σ α) rfl 6 (by decide) k_1 (fun _ h9 => h9) rfl dX10_stands_8 ?_
    refine lv_iload_n hx hb dX10_stands_11 rfl (lv_at hl 1 rfl) ?_
    refine lv_iload_n hx hb dX10_stands_12 rfl (lv_at hl 2 rfl) ?_
    refine lv_iload_n hx hb dX10_stands_13 rfl (lv_at hl 3 rfl) ?_
    refine lv_iload hx hb dX10_stands_14 (lv_at hl 4 rfl) ?_
    refine sm_vi (As := [.int p1, .int p2, .int p3, .int p4]) (rest := []) hP hK hD hE hS hA ⟨hx, hb, hml, hown, hts⟩ hl.1 (c_X8_found l D H.size t0 σ α p1 p2 p3 p4 _ hF) (cwV 4 hts wg_X10_stands_X8_found_229 rfl rfl rfl (by decide +kernel) ⟨Nat.le_of_ble_eq_true rfl, Nat.le_of_ble_eq_true rfl⟩) (va_recv hK hP (ci := 8) (q0 := 8) rfl (sm_gX8 σ α)) rfl rfl (Nat.le_of_ble_eq_true rfl) dX10_stands_16 ⟨Nat.zero_le _, Nat.zero_le _⟩ (fun r3 σ2 H locs hF hP hS => ?_)
    refine lv_goto (tgt := 23) hx hb dX10_stands_19 (by decide) ?_
    exact B23 σ2 r3 hF H locs ls hP hS (lv_sub hl [] rfl)
