theorem dX6_number_0 : decode cX6_number 0 = .ok (.aload_n 0, 1) := by decide +kernel
theorem dX6_number_1 : decode cX6_number 1 = .ok (.getfield 31, 3) := by decide +kernel
theorem dX6_number_4 : decode cX6_number 4 = .ok (.iconst (-1), 1) := by decide +kernel
theorem dX6_number_5 : decode cX6_number 5 = .ok (.if_icmp .eq 5, 3) := by decide +kernel
theorem dX6_number_8 : decode cX6_number 8 = .ok (.iconst 0, 1) := by decide +kernel
theorem dX6_number_9 : decode cX6_number 9 = .ok (.ireturn, 1) := by decide +kernel
theorem dX6_number_10 : decode cX6_number 10 = .ok (.aload_n 0, 1) := by decide +kernel
theorem dX6_number_11 : decode cX6_number 11 = .ok (.getfield 9, 3) := by decide +kernel
theorem dX6_number_14 : decode cX6_number 14 = .ok (.aload_n 0, 1) := by decide +kernel
theorem dX6_number_15 : decode cX6_number 15 = .ok (.getfield 27, 3) := by decide +kernel
theorem dX6_number_18 : decode cX6_number 18 = .ok (.invokevirtual 63, 3) := by decide +kernel
theorem dX6_number_21 : decode cX6_number 21 = .ok (.istore 4, 2) := by decide +kernel
theorem dX6_number_23 : decode cX6_number 23 = .ok (.iload 4, 2) := by decide +kernel
theorem dX6_number_25 : decode cX6_number 25 = .ok (.iconst (-1), 1) := by decide +kernel
theorem dX6_number_26 : decode cX6_number 26 = .ok (.if_icmp .eq 21, 3) := by decide +kernel
theorem dX6_number_29 : decode cX6_number 29 = .ok (.iload 4, 2) := by decide +kernel
theorem dX6_number_31 : decode cX6_number 31 = .ok (.iload_n 1, 1) := by decide +kernel
theorem dX6_number_32 : decode cX6_number 32 = .ok (.if_icmp .lt 9, 3) := by decide +kernel
theorem dX6_number_35 : decode cX6_number 35 = .ok (.iload 4, 2) := by decide +kernel
theorem dX6_number_37 : decode cX6_number 37 = .ok (.iload_n 2, 1) := by decide +kernel
theorem dX6_number_38 : decode cX6_number 38 = .ok (.if_icmp .le 19, 3) := by decide +kernel
theorem dX6_number_41 : decode cX6_number 41 = .ok (.iload 4, 2) := by decide +kernel
theorem dX6_number_43 : decode cX6_number 43 = .ok (.iload_n 3, 1) := by decide +kernel
theorem dX6_number_44 : decode cX6_number 44 = .ok (.if_icmp .eq 13, 3) := by decide +kernel
theorem dX6_number_47 : decode cX6_number 47 = .ok (.aload_n 0, 1) := by decide +kernel
theorem dX6_number_48 : decode cX6_number 48 = .ok (.aload_n 0, 1) := by decide +kernel
theorem dX6_number_49 : decode cX6_number 49 = .ok (.getfield 27, 3) := by decide +kernel
theorem dX6_number_52 : decode cX6_number 52 = .ok (.putfield 31, 3) := by decide +kernel
theorem dX6_number_55 : decode cX6_number 55 = .ok (.iconst 0, 1) := by decide +kernel
theorem dX6_number_56 : decode cX6_number 56 = .ok (.ireturn, 1) := by decide +kernel
theorem dX6_number_57 : decode cX6_number 57 = .ok (.aload_n 0, 1) := by decide +kernel
theorem dX6_number_58 : decode cX6_number 58 = .ok (.dup, 1) := by decide +kernel
theorem dX6_number_59 : decode cX6_number 59 = .ok (.getfield 27, 3) := by decide +kernel
theorem dX6_number_62 : decode cX6_number 62 = .ok (.iconst 1, 1) := by decide +kernel
theorem dX6_number_63 : decode cX6_number 63 = .ok (.iadd, 1) := by decide +kernel
theorem dX6_number_64 : decode cX6_number 64 = .ok (.putfield 27, 3) := by decide +kernel
theorem dX6_number_67 : decode cX6_number 67 = .ok (.iload 4, 2) := by decide +kernel
theorem dX6_number_69 : decode cX6_number 69 = .ok (.ireturn, 1) := by decide +kernel
def wp_X6_number : List Cond := .code yX6_number cX6_number 5 (some .int) :: (([.fieldLink RX6 27 "SteadyMachine$Reader" "at" "I", .fieldLink RX6 31 "SteadyMachine$Reader" "wrong" "I", .fieldLink RX6 9 "SteadyMachine$Reader" "image" "LSteadyMachine$Image;"] ++ (wsV RX6 63 RX2 yX2_at wp_X2_at)) ++ wsX60)
theorem wq_X6_number : wp_X6_number.all goodWord = true := wa_c rfl (wa_a (wa_a (by decide +kernel) (wa_V wq_X2_at)) uq_X6)
theorem wt_X6_number : GoodIn lw_tbl wp_X6_number := wm_c (List.mem_of_getElem? (i := 652) (by decide +kernel)) rfl (wm_a (wm_a (goodIn_r _ [340, 341, 337] (by decide +kernel) (by decide +kernel)) (wm_a (goodIn_r _ [653, 654, 655, 137] (by decide +kernel) (by decide +kernel)) wt_X2_at)) ut_X6)
theorem wg_X6_number_X2_at_63 : GoodIn wp_X6_number (wsV RX6 63 RX2 yX2_at wp_X2_at) := goodIn_sub (fun w h => List.mem_cons_of_mem _ (List.mem_append_left _ (List.mem_append_right _ h))) (wa_V wq_X2_at)
theorem wi_X6_number_X6 : ∀ w ∈ wsX60, w ∈ wp_X6_number := fun w h => List.mem_cons_of_mem _ (List.mem_append_right _ h)
set_option maxHeartbeats 4000000 in
set_option maxRecDepth 100000 in
theorem c_X6_number (l : Launch) (D : va_G) (sz t0 : Nat) (σ : sm_S) (α : sm_A) (p1 : Int32) (p2 : Int32) (p3 : Int32) (K : Int32 → sm_S → Prop) (hF : mp_X6_number σ p1 p2 p3 K) : Met l yX6_number wp_X6_number { frames := 1, cells := 0, slots := 0, locals := 21 } (sm_P sm_wX sm_tX 37 D sz t0 σ α [.ref (α.1 6), .int p1, .int p2, .int p3]) (va_Qi K (sm_B sm_wX D α) (sm_a α 37 sz)) 0 0 (sm_a α 37 sz) := by
  refine Met.ofW (cc := cX6_number) (maxL := 5) (ret := (some .int)) (by decide) rfl ?_
  intro p e s m args below meth c s₁ B hml hv
  obtain ⟨rfl, hsz, hP, hK, hD0, hE⟩ := hv
  have hx := B.exec
  have hb := B.bytes
  have hr := B.returns
  have hts := atoms_spec (ws := wp_X6_number) B.pre
  have hown : s.vm.findClass RX6 = some m.cls := findClass_of_methodNamed B.named
  have hlocks := B.notSynchronized
  subst hsz
  have hD : sm_D (sm_a α 37 s.heap.size) α 37 := hD0.own
  have hA : ∀ q : Nat, s.heap.size ≤ q → sm_a α 37 s.heap.size q := fun q h => Or.inr h
  generalize hAe : sm_a α 37 s.heap.size = A at hD hA hE ⊢
  have hS : va_S A s.heap s.heap [] := va_S.rf
  have in_X6 : ∀ w ∈ wsX60, w ∈ wp_X6_number := wi_X6_number_X6
  have k_0 := hts (.fieldLink RX6 27 "SteadyMachine$Reader" "at" "I") (by decide +kernel)
  have k_1 := hts (.fieldLink RX6 31 "SteadyMachine$Reader" "wrong" "I") (by decide +kernel)
  have k_2 := hts (.fieldLink RX6 9 "SteadyMachine$Reader" "image" "LSteadyMachine$Image;") (by decide +kernel)
  have hl := lv_entry ([.ref (α.1 6), .int p1, .int p2, .int p3]) (n := 5) (Nat.le_of_ble_eq_true rfl)
  rw [lg_entry_eq]
  generalize (lg_sl ([.ref (α.1 6), .int p1, .int p2, .int p3]) ++ List.replicate (5 - (lg_sl ([.ref (α.1 6), .int p1, .int p2, .int p3])).length) Slot.unset).toArray = ls at hl ⊢
  have hl : lv_has ls 5 [(0, .ref (α.1 6)), (1, .int p1), (2, .int p2), (3, .int p3)] := hl
  have B57 : ∀ (σ : sm_S) (x4 : Int32), mp_X6_number_57 K σ x4 → sm_J p l e (headSpec wp_X6_number { frames := 1, cells := 0, slots := 0, locals := 21 }).room s m ([.ref (α.1 6), .int p1, .int p2, .int p3] : List Value).toArray below meth c (MQ below (va_Qi K (sm_B sm_wX D α) A) ([.ref (α.1 6), .int p1, .int p2, .int p3] : List Value).toArray s 0 0 A) D A 5 (sm_wX σ α) 57 [(0, .ref (α.1 6)), (4, .int x4)] [] := by
    intro σ x4 hF H locs ls hP hS hl
    unfold mp_X6_number_57 at hF
    refine lv_aload_n hx hb dX6_number_57 rfl (lv_at hl 0 rfl) ?_
    refine lv_dup hx hb dX6_number_58 rfl ?_
    refine va_get (D := D) (ci := 6) (v := .int (σ.1 20)) (C := RX6) (T := TX6) (N := 5) hx hb hts in_X6 hown hK hP 6 (sm_gX6 σ α) rfl 3 (by decide) k_0 (fun _ h9 => h9) rfl dX6_number_59 ?_
    refine lv_iconst (v := 1) hx hb dX6_number_62 (by decide) ?_
    refine lv_iadd hx hb dX6_number_63 ?_
    refine va_put (D := D) (ci := 6) (v := .int ((σ.1 20) + 1)) (ty := .int) (C := RX6) (T := TX6) (N := 5) hx hb hts in_X6 tyX6 tyX6_ok nmX6 hown hK hP (hD.to (sm_wX_m _ _)) hS 6 (sm_gX6 σ α) rfl 3 (by decide) k_0 (fun _ h9 => h9) rfl (by decide +kernel) rfl rfl (Nat.le_of_ble_eq_true rfl) dX6_number_64 (fun H locs hP _ hS => ?_)
    rw [sm_iX20] at hP
    obtain ⟨σ1, eσ1⟩ : ∃ x : sm_S, x = sm_i σ 20 ((σ.1 20) + 1) := ⟨_, rfl⟩
    replace hF := hF σ1 eσ1
    rw [← eσ1] at hP
    refine lv_iload hx hb dX6_number_67 (lv_at hl 1 rfl) ?_
    exact W.iret (v := x4) hx hb hr (fun t ht hW => ⟨⟨x4, σ1, rfl, hF, (by unfold sm_B; rw [ht]; exact hP)⟩, hS.F ht⟩) hS.2.2 dX6_number_69
  have B47 : ∀ (σ : sm_S), mp_X6_number_47 K σ → sm_J p l e (headSpec wp_X6_number { frames := 1, cells := 0, slots := 0, locals := 21 }).room s m ([.ref (α.1 6), .int p1, .int p2, .int p3] : List Value).toArray below meth c (MQ below (va_Qi K (sm_B sm_wX D α) A) ([.ref (α.1 6), .int p1, .int p2, .int p3] : List Value).toArray s 0 0 A) D A 5 (sm_wX σ α) 47 [(0, .ref (α.1 6))] [] := by
    intro σ hF H locs ls hP hS hl
    unfold mp_X6_number_47 at hF
    refine lv_aload_n hx hb dX6_number_47 rfl (lv_at hl 0 rfl) ?_
    refine lv_aload_n hx hb dX6_number_48 rfl (lv_at hl 0 rfl) ?_
    refine va_get (D := D) (ci := 6) (v := .int (σ.1 20)) (C := RX6) (T := TX6) (N := 5) hx hb hts in_X6 hown hK hP 6 (sm_gX6 σ α) rfl 3 (by decide) k_0 (fun _ h9 => h9) rfl dX6_number_49 ?_
    refine va_put (D := D) (ci := 6) (v := .int (σ.1 20)) (ty := .int) (C := RX6) (T := TX6) (N := 5) hx hb hts in_X6 tyX6 tyX6_ok nmX6 hown hK hP (hD.to (sm_wX_m _ _)) hS 6 (sm_gX6 σ α) rfl 4 (by decide) k_1 (fun _ h9 => h9) rfl (by decide +kernel) rfl rfl (Nat.le_of_ble_eq_true rfl) dX6_number_52 (fun H locs hP _ hS => ?_)
    rw [sm_iX21] at hP
    obtain ⟨σ2, eσ2⟩ : ∃ x : sm_S, x = sm_i σ 21 (σ.1 20) := ⟨_, rfl⟩
    replace hF := hF σ2 eσ2
    rw [← eσ2] at hP
    refine lv_iconst (v := 0) hx hb dX6_number_55 (by decide) ?_
    exact W.iret (v := 0) hx hb hr (fun t ht hW => ⟨⟨0, σ2, rfl, hF, (by unfold sm_B; rw [ht]; exact hP)⟩, hS.F ht⟩) hS.2.2 dX6_number_56
  have B41 : ∀ (σ : sm_S) (x3 : Int32) (x4 : Int32), mp_X6_number_41 K σ x3 x4 → sm_J p l e (headSpec wp_X6_number { frames := 1, cells := 0, slots := 0, locals := 21 }).room s m ([.ref (α.1 6), .int p1, .int p2, .int p3] : List Value).toArray below meth c (MQ below (va_Qi K (sm_B sm_wX D α) A) ([.ref (α.1 6), .int p1, .int p2, .int p3] : List Value).toArray s 0 0 A) D A 5 (sm_wX σ α) 41 [(0, .ref (α.1 6)), (3, .int x3), (4, .int x4)] [] := by
    intro σ x3 x4 hF H locs ls hP hS hl
    unfold mp_X6_number_41 at hF
    refine lv_iload hx hb dX6_number_41 (lv_at hl 2 rfl) ?_
    refine lv_iload_n hx hb dX6_number_43 rfl (lv_at hl 1 rfl) ?_
    refine lv_icmp_eq (tgt := 57) hx hb dX6_number_44 (by decide) (fun h3 => ?_) (fun h3 => ?_)
    · replace hF := hF.1 h3
      exact B57 σ x4 hF H locs ls hP hS (lv_sub hl [0, 2] rfl)
    · replace hF := hF.2 h3
      exact B47 σ hF H locs ls hP hS (lv_sub hl [0] rfl)
  unfold mp_X6_number at hF
  revert hP hS
  generalize hLo : ([] : List Loc) = locs
  suffices h9 : ∀ (H : Heap) (locs : List Loc), va_P D vwCl (sm_wX σ α) H → va_S A s.heap H locs → W p l e (headSpec wp_X6_number { frames := 1, cells := 0, slots := 0, locals := 21 }).room s m ([.ref (α.1 6), .int p1, .int p2, .int p3] : List Value).toArray below meth c H locs 0 0 (MQ below (va_Qi K (sm_B sm_wX D α) A) ([.ref (α.1 6), .int p1, .int p2, .int p3] : List Value).toArray s 0 0 A) (F0 m 0 ls []) from fun hP hS => h9 s.heap locs hP hS
  intro H locs hP hS
  refine lv_aload_n hx hb dX6_number_0 rfl (lv_at hl 0 rfl) ?_
  refine va_get (D := D) (ci := 6) (v := .int (σ.1 21)) (C := RX6) (T := TX6) (N := 5) hx hb hts in_X6 hown hK hP 6 (sm_gX6 σ α) rfl 4 (by decide) k_1 (fun _ h9 => h9) rfl dX6_number_1 ?_
  refine lv_iconst (v := -1) hx hb dX6_number_4 (by decide) ?_
  refine lv_icmp_eq (tgt := 10) hx hb dX6_number_5 (by decide) (fun h4 => ?_) (fun h4 => ?_)
  · replace hF := hF.1 h4
    refine lv_aload_n hx hb dX6_number_10 rfl (lv_at hl 0 rfl) ?_
    refine va_get (D := D) (ci := 6) (v := .ref (α.1 2)) (C := RX6) (T := TX6) (N := 5) hx hb hts in_X6 hown hK hP 6 (sm_gX6 σ α) rfl 0 (by decide) k_2 (fun _ h9 => h9) rfl dX6_number_11 ?_
    refine lv_aload_n hx hb dX6_number_14 rfl (lv_at hl 0 rfl) ?_
    refine va_get (D := D) (ci := 6) (v := .int (σ.1 20)) (C := RX6) (T := TX6) (N := 5) hx hb hts in_X6 hown hK hP 6 (sm_gX6 σ α) rfl 3 (by decide) k_0 (fun _ h9 => h9) rfl dX6_number_15 ?_
    refine sm_vi (As := [.int (σ.1 20)]) (rest := []) hP hK hD hE hS hA ⟨hx, hb, hml, hown, hts⟩ hl.1 (c_X2_at l D H.size t0 σ α (σ.1 20) _ hF) (cwV 1 hts wg_X6_number_X2_at_63 rfl rfl rfl (by decide +kernel) ⟨Nat.le_of_ble_eq_true rfl, Nat.le_of_ble_eq_true rfl⟩) (va_recv hK hP (ci := 2) (q0 := 2) rfl (sm_gX2 σ α)) rfl rfl (Nat.le_of_ble_eq_true rfl) dX6_number_18 ⟨Nat.zero_le _, Nat.zero_le _⟩ (fun r6 σ5 H locs hF hP hS => ?_)
    refine lv_istore (lv' := [(4, .int r6), (0, .ref (α.1 6)), (1, .int p1), (2, .int p2), (3, .int p3)]) hx hb dX6_number_21 hl (by decide) rfl (fun ls hl => ?_)
    refine lv_iload hx hb dX6_number_23 (lv_at hl 0 rfl) ?_
    refine lv_iconst (v := -1) hx hb dX6_number_25 (by decide) ?_
    refine lv_icmp_eq (tgt := 47) hx hb dX6_number_26 (by decide) (fun h7 => ?_) (fun h7 => ?_)
    · replace hF := hF.1 h7
      exact B47 σ5 hF H locs ls hP hS (lv_sub hl [1] rfl)
    · replace hF := hF.2 h7
      refine lv_iload hx hb dX6_number_29 (lv_at hl 0 rfl) ?_
      refine lv_iload_n hx hb dX6_number_31 rfl (lv_at hl 2 rfl) ?_
      refine lv_icmp_lt (tgt := 41) hx hb dX6_number_32 (by decide) (fun h8 => ?_) (fun h8 => ?_)
      · replace hF := hF.1 h8
        exact B41 σ5 p3 r6 hF H locs ls hP hS (lv_sub hl [1, 4, 0] rfl)
      · replace hF := hF.2 h8
        refine lv_iload hx hb dX6_number_35 (lv_at hl 0 rfl) ?_
        refine lv_iload_n hx hb dX6_number_37 rfl (lv_at hl 3 rfl) ?_
        refine lv_icmp_le (tgt := 57) hx hb dX6_number_38 (by decide) (fun h9 => ?_) (fun h9 => ?_)
        · replace hF := hF.1 h9
          exact B57 σ5 r6 hF H locs ls hP hS (lv_sub hl [1, 0] rfl)
        · replace hF := hF.2 h9
          exact B41 σ5 p3 r6 hF H locs ls hP hS (lv_sub hl [1, 4, 0] rfl)
  · replace hF := hF.2 h4
    refine lv_iconst (v := 0) hx hb dX6_number_8 (by decide) ?_
    exact W.iret (v := 0) hx hb hr (fun t ht hW => ⟨⟨0, σ, rfl, hF, (by unfold sm_B; rw [ht]; exact hP)⟩, hS.F ht⟩) hS.2.2 dX6_number_9
theorem dX6_type_0 : decode cX6_type 0 = .ok (.aload_n 0, 1) := by decide +kernel
theorem dX6_type_1 : decode cX6_type 1 = .ok (.getfield 9, 3) := by decide +kernel
theorem dX6_type_4 : decode cX6_type 4 = .ok (.aload_n 0, 1) := by decide +kernel
theorem dX6_type_5 : decode cX6_type 5 = .ok (.getfield 27, 3) := by decide +kernel
theorem dX6_type_8 : decode cX6_type 8 = .ok (.invokevirtual 63, 3) := by decide +kernel
theorem dX6_type_11 : decode cX6_type 11 = .ok (.istore_n 2, 1) := by decide +kernel
theorem dX6_type_12 : decode cX6_type 12 = .ok (.iload_n 2, 1) := by decide +kernel
theorem dX6_type_13 : decode cX6_type 13 = .ok (.bipush 64, 2) := by decide +kernel
theorem dX6_type_15 : decode cX6_type 15 = .ok (.if_icmp .lt 35, 3) := by decide +kernel
theorem dX6_type_18 : decode cX6_type 18 = .ok (.iload_n 2, 1) := by decide +kernel
theorem dX6_type_19 : decode cX6_type 19 = .ok (.bipush 64, 2) := by decide +kernel
theorem dX6_type_21 : decode cX6_type 21 = .ok (.aload_n 0, 1) := by decide +kernel
theorem dX6_type_22 : decode cX6_type 22 = .ok (.getfield 21, 3) := by decide +kernel
theorem dX6_type_25 : decode cX6_type 25 = .ok (.getfield 38, 3) := by decide +kernel
theorem dX6_type_28 : decode cX6_type 28 = .ok (.iadd, 1) := by decide +kernel
theorem dX6_type_29 : decode cX6_type 29 = .ok (.if_icmp .gt 21, 3) := by decide +kernel
theorem dX6_type_32 : decode cX6_type 32 = .ok (.aload_n 0, 1) := by decide +kernel
theorem dX6_type_33 : decode cX6_type 33 = .ok (.bipush 64, 2) := by decide +kernel
theorem dX6_type_35 : decode cX6_type 35 = .ok (.bipush 64, 2) := by decide +kernel
theorem dX6_type_37 : decode cX6_type 37 = .ok (.aload_n 0, 1) := by decide +kernel
theorem dX6_type_38 : decode cX6_type 38 = .ok (.getfield 21, 3) := by decide +kernel
theorem dX6_type_41 : decode cX6_type 41 = .ok (.getfield 38, 3) := by decide +kernel
theorem dX6_type_44 : decode cX6_type 44 = .ok (.iadd, 1) := by decide +kernel
theorem dX6_type_45 : decode cX6_type 45 = .ok (.iconst (-1), 1) := by decide +kernel
theorem dX6_type_46 : decode cX6_type 46 = .ok (.invokevirtual 34, 3) := by decide +kernel
theorem dX6_type_49 : decode cX6_type 49 = .ok (.ireturn, 1) := by decide +kernel
theorem dX6_type_50 : decode cX6_type 50 = .ok (.aload_n 0, 1) := by decide +kernel
theorem dX6_type_51 : decode cX6_type 51 = .ok (.iconst 0, 1) := by decide +kernel
theorem dX6_type_52 : decode cX6_type 52 = .ok (.aload_n 0, 1) := by decide +kernel
theorem dX6_type_53 : decode cX6_type 53 = .ok (.getfield 21, 3) := by decide +kernel
theorem dX6_type_56 : decode cX6_type 56 = .ok (.getfield 38, 3) := by decide +kernel
theorem dX6_type_59 : decode cX6_type 59 = .ok (.iload_n 1, 1) := by decide +kernel
theorem dX6_type_60 : decode cX6_type 60 = .ok (.invokevirtual 34, 3) := by decide +kernel
theorem dX6_type_63 : decode cX6_type 63 = .ok (.ireturn, 1) := by decide +kernel
def wp_X6_type : List Cond := .code yX6_type cX6_type 3 (some .int) :: (((([.fieldLink RX6 21 "SteadyMachine$Reader" "classes" "LSteadyMachine$Classes;", .fieldLink RX6 38 "SteadyMachine$Classes" "many" "I", .fieldLink RX6 9 "SteadyMachine$Reader" "image" "LSteadyMachine$Image;", .fieldLink RX6 27 "SteadyMachine$Reader" "at" "I"] ++ (wsV RX6 34 RX6 yX6_number wp_X6_number)) ++ (wsV RX6 63 RX2 yX2_at wp_X2_at)) ++ wsX00) ++ wsX60)
theorem wq_X6_type : wp_X6_type.all goodWord = true := wa_c rfl (wa_a (wa_a (wa_a (wa_a (by decide +kernel) (wa_V wq_X6_number)) (wa_V wq_X2_at)) uq_X0) uq_X6)
theorem wt_X6_type : GoodIn lw_tbl wp_X6_type := wm_c (List.mem_of_getElem? (i := 668) (by decide +kernel)) rfl (wm_a (wm_a (wm_a (wm_a (goodIn_r _ [338, 172, 337, 340] (by decide +kernel) (by decide +kernel)) (wm_a (goodIn_r _ [649, 651, 1, 140] (by decide +kernel) (by decide +kernel)) wt_X6_number)) (wm_a (goodIn_r _ [653, 654, 655, 137] (by decide +kernel) (by decide +kernel)) wt_X2_at)) ut_X0) ut_X6)
theorem wg_X6_type_X6_number_34 : GoodIn wp_X6_type (wsV RX6 34 RX6 yX6_number wp_X6_number) := goodIn_sub (fun w h => List.mem_cons_of_mem _ (List.mem_append_left _ (List.mem_append_left _ (List.mem_append_left _ (List.mem_append_right _ h))))) (wa_V wq_X6_number)
theorem wg_X6_type_X2_at_63 : GoodIn wp_X6_type (wsV RX6 63 RX2 yX2_at wp_X2_at) := goodIn_sub (fun w h => List.mem_cons_of_mem _ (List.mem_append_left _ (List.mem_append_left _ (List.mem_append_right _ h)))) (wa_V wq_X2_at)
theorem wi_X6_type_X0 : ∀ w ∈ wsX00, w ∈ wp_X6_type := fun w h => List.mem_cons_of_mem _ (List.mem_append_left _ (List.mem_append_right _ h))
theorem wi_X6_type_X6 : ∀ w ∈ wsX60, w ∈ wp_X6_type := fun w h => List.mem_cons_of_mem _ (List.mem_append_right _ h)
set_option maxHeartbeats 4000000 in
set_option maxRecDepth 100000 in
theorem c_X6_type (l : Launch) (D : va_G) (sz t0 : Nat) (σ : sm_S) (α : sm_A) (p1 : Int32) (K : Int32 → sm_S → Prop) (hF : mp_X6_type σ p1 K) : Met l yX6_type wp_X6_type { frames := 2, cells := 0, slots := 0, locals := 45 } (sm_P sm_wX sm_tX 37 D sz t0 σ α [.ref (α.1 6), .int p1]) (va_Qi K (sm_B sm_wX D α) (sm_a α 37 sz)) 0 0 (sm_a α 37 sz) := by
  refine Met.ofW (cc := cX6_type) (maxL := 3) (ret := (some .int)) (by decide) rfl ?_
  intro p e s m args below meth c s₁ B hml hv
  obtain ⟨rfl, hsz, hP, hK, hD0, hE⟩ := hv
  have hx := B.exec
  have hb := B.bytes
  have hr := B.returns
  have hts := atoms_spec (ws := wp_X6_type) B.pre
  have hown : s.vm.findClass RX6 = some m.cls := findClass_of_methodNamed B.named
  have hlocks := B.notSynchronized
  subst hsz
  have hD : sm_D (sm_a α 37 s.heap.size) α 37 := hD0.own
  have hA : ∀ q : Nat, s.heap.size ≤ q → sm_a α 37 s.heap.size q := fun q h => Or.inr h
  generalize hAe : sm_a α 37 s.heap.size = A at hD hA hE ⊢
  have hS : va_S A s.heap s.heap [] := va_S.rf
  have in_X0 : ∀ w ∈ wsX00, w ∈ wp_X6_type := wi_X6_type_X0
  have in_X6 : ∀ w ∈ wsX60, w ∈ wp_X6_type := wi_X6_type_X6
  have k_0 := hts (.fieldLink RX6 21 "SteadyMachine$Reader" "classes" "LSteadyMachine$Classes;") (by decide +kernel)
  have k_1 := hts (.fieldLink RX6 38 "SteadyMachine$Classes" "many" "I") (by decide +kernel)
  have k_2 := hts (.fieldLink RX6 9 "SteadyMachine$Reader" "image" "LSteadyMachine$Image;") (by decide +kernel)
  have k_3 := hts (.fieldLink RX6 27 "SteadyMachine$Reader" "at" "I") (by decide +kernel)
  have hl := lv_entry ([.ref (α.1 6), .int p1]) (n := 3) (Nat.le_of_ble_eq_true rfl)
  rw [lg_entry_eq]
  generalize (lg_sl ([.ref (α.1 6), .int p1]) ++ List.replicate (3 - (lg_sl ([.ref (α.1 6), .int p1])).length) Slot.unset).toArray = ls at hl ⊢
  have hl : lv_has ls 3 [(0, .ref (α.1 6)), (1, .int p1)] := hl
  have B50 : ∀ (σ : sm_S) (x1 : Int32), mp_X6_type_50 K σ x1 → sm_J p l e (headSpec wp_X6_type { frames := 2, cells := 0, slots := 0, locals := 45 }).room s m ([.ref (α.1 6), .int p1] : List Value).toArray below meth c (MQ below (va_Qi K (sm_B sm_wX D α) A) ([.ref (α.1 6), .int p1] : List Value).toArray s 0 0 A) D A 3 (sm_wX σ α) 50 [(0, .ref (α.1 6)), (1, .int x1)] [] := by
    intro σ x1 hF H locs ls hP hS hl
    unfold mp_X6_type_50 at hF
    refine lv_aload_n hx hb dX6_type_50 rfl (lv_at hl 0 rfl) ?_
    refine lv_iconst (v := 0) hx hb dX6_type_51 (by decide) ?_
    refine lv_aload_n hx hb dX6_type_52 rfl (lv_at hl 0 rfl) ?_
    refine va_get (D := D) (ci := 6) (v := .ref (α.1 0)) (C := RX6) (T := TX6) (N := 5) hx hb hts in_X6 hown hK hP 6 (sm_gX6 σ α) rfl 1 (by decide) k_0 (fun _ h9 => h9) rfl dX6_type_53 ?_
    refine va_get (D := D) (ci := 0) (v := .int (σ.1 0)) (C := RX0) (T := TX0) (N := 7) hx hb hts in_X0 hown hK hP 0 (sm_gX0 σ α) rfl 0 (by decide) k_1 (fun _ h9 => h9) rfl dX6_type_56 ?_
    refine lv_iload_n hx hb dX6_type_59 rfl (lv_at hl 1 rfl) ?_
    refine sm_vi (As := [.int 0, .int (σ.1 0), .int x1]) (rest := []) hP hK hD hE hS hA ⟨hx, hb, hml, hown, hts⟩ hl.1 (c_X6_number l D H.size t0 σ α 0 (σ.1 0) x1 _ hF) (cwV 3 hts wg_X6_type_X6_number_34 rfl rfl rfl (by decide +kernel) ⟨Nat.le_of_ble_eq_true rfl, Nat.le_of_ble_eq_true rfl⟩) (va_recv hK hP (ci := 6) (q0 := 6) rfl (sm_gX6 σ α)) rfl rfl (Nat.le_of_ble_eq_true rfl) dX6_type_60 ⟨Nat.zero_le _, Nat.zero_le _⟩ (fun r2 σ1 H locs hF hP hS => ?_)
    exact W.iret (v := r2) hx hb hr (fun t ht hW => ⟨⟨r2, σ1, rfl, hF, (by unfold sm_B; rw [ht]; exact hP)⟩, hS.F ht⟩) hS.2.2 dX6_type_63
  unfold mp_X6_type at hF
  revert hP hS
  generalize hLo : ([] : List Loc) = locs
  suffices h9 : ∀ (H : Heap) (locs : List Loc), va_P D vwCl (sm_wX σ α) H → va_S A s.heap H locs → W p l e (headSpec wp_X6_type { frames := 2, cells := 0, slots := 0, locals := 45 }).room s m ([.ref (α.1 6), .int p1] : List Value).toArray below meth c H locs 0 0 (MQ below (va_Qi K (sm_B sm_wX D α) A) ([.ref (α.1 6), .int p1] : List Value).toArray s 0 0 A) (F0 m 0 ls []) from fun hP hS => h9 s.heap locs hP hS
  intro H locs hP hS
  refine lv_aload_n hx hb dX6_type_0 rfl (lv_at hl 0 rfl) ?_
  refine va_get (D := D) (ci := 6) (v := .ref (α.1 2)) (C := RX6) (T := TX6) (N := 5) hx hb hts in_X6 hown hK hP 6 (sm_gX6 σ α) rfl 0 (by decide) k_2 (fun _ h9 => h9) rfl dX6_type_1 ?_
  refine lv_aload_n hx hb dX6_type_4 rfl (lv_at hl 0 rfl) ?_
  refine va_get (D := D) (ci := 6) (v := .int (σ.1 20)) (C := RX6) (T := TX6) (N := 5) hx hb hts in_X6 hown hK hP 6 (sm_gX6 σ α) rfl 3 (by decide) k_3 (fun _ h9 => h9) rfl dX6_type_5 ?_
  refine sm_vi (As := [.int (σ.1 20)]) (rest := []) hP hK hD hE hS hA ⟨hx, hb, hml, hown, hts⟩ hl.1 (c_X2_at l D H.size t0 σ α (σ.1 20) _ hF) (cwV 1 hts wg_X6_type_X2_at_63 rfl rfl rfl (by decide +kernel) ⟨Nat.le_of_ble_eq_true rfl, Nat.le_of_ble_eq_true rfl⟩) (va_recv hK hP (ci := 2) (q0 := 2) rfl (sm_gX2 σ α)) rfl rfl (Nat.le_of_ble_eq_true rfl) dX6_type_8 ⟨Nat.zero_le _, Nat.zero_le _⟩ (fun r4 σ3 H locs hF hP hS => ?_)
  refine lv_istore_n (lv' := [(2, .int r4), (0, .ref (α.1 6)), (1, .int p1)]) hx hb dX6_type_11 rfl hl (by decide) rfl (fun ls hl => ?_)
  refine lv_iload_n hx hb dX6_type_12 rfl (lv_at hl 0 rfl) ?_
  refine lv_bipush (v := 64) hx hb dX6_type_13 (by decide) ?_
  refine lv_icmp_lt (tgt := 50) hx hb dX6_type_15 (by decide) (fun h5 => ?_) (fun h5 => ?_)
  · replace hF := hF.1 h5
    exact B50 σ3 p1 hF H locs ls hP hS (lv_sub hl [1, 2] rfl)
  · replace hF := hF.2 h5
    refine lv_iload_n hx hb dX6_type_18 rfl (lv_at hl 0 rfl) ?_
    refine lv_bipush (v := 64) hx hb dX6_type_19 (by decide) ?_
    refine lv_aload_n hx hb dX6_type_21 rfl (lv_at hl 1 rfl) ?_
    refine va_get (D := D) (ci := 6) (v := .ref (α.1 0)) (C := RX6) (T := TX6) (N := 5) hx hb hts in_X6 hown hK hP 6 (sm_gX6 σ3 α) rfl 1 (by decide) k_0 (fun _ h9 => h9) rfl dX6_type_22 ?_
    refine va_get (D := D) (ci := 0) (v := .int (σ3.1 0)) (C := RX0) (T := TX0) (N := 7) hx hb hts in_X0 hown hK hP 0 (sm_gX0 σ3 α) rfl 0 (by decide) k_1 (fun _ h9 => h9) rfl dX6_type_25 ?_
    refine lv_iadd hx hb dX6_type_28 ?_
    refine lv_icmp_gt (tgt := 50) hx hb dX6_type_29 (by decide) (fun h6 => ?_) (fun h6 => ?_)
    · replace hF := hF.1 h6
      exact B50 σ3 p1 hF H locs ls hP hS (lv_sub hl [1, 2] rfl)
    · replace hF := hF.2 h6
      refine lv_aload_n hx hb dX6_type_32 rfl (lv_at hl 1 rfl) ?_
      refine lv_bipush (v := 64) hx hb dX6_type_33 (by decide) ?_
      refine lv_bipush (v := 64) hx hb dX6_type_35 (by decide) ?_
      refine lv_aload_n hx hb dX6_type_37 rfl (lv_at hl 1 rfl) ?_
      refine va_get (D := D) (ci := 6) (v := .ref (α.1 0)) (C := RX6) (T := TX6) (N := 5) hx hb hts in_X6 hown hK hP 6 (sm_gX6 σ3 α) rfl 1 (by decide) k_0 (fun _ h9 => h9) rfl dX6_type_38 ?_
      refine va_get (D := D) (ci := 0) (v := .int (σ3.1 0)) (C := RX0) (T := TX0) (N := 7) hx hb hts in_X0 hown hK hP 0 (sm_gX0 σ3 α) rfl 0 (by decide) k_1 (fun _ h9 => h9) rfl dX6_type_41 ?_
      refine lv_iadd hx hb dX6_type_44 ?_
      refine lv_iconst (v := -1) hx hb dX6_type_45 (by decide) ?_
      refine sm_vi (As := [.int 64, .int (64 + (σ3.1 0)), .int (-1)]) (rest := []) hP hK hD hE hS hA ⟨hx, hb, hml, hown, hts⟩ hl.1 (c_X6_number l D H.size t0 σ3 α 64 (64 + (σ3.1 0)) (-1) _ hF) (cwV 3 hts wg_X6_type_X6_number_34 rfl rfl rfl (by decide +kernel) ⟨Nat.le_of_ble_eq_true rfl, Nat.le_of_ble_eq_true rfl⟩) (va_recv hK hP (ci := 6) (q0 := 6) rfl (sm_gX6 σ3 α)) rfl rfl (Nat.le_of_ble_eq_true rfl) dX6_type_46 ⟨Nat.zero_le _, Nat.zero_le _⟩ (fun r8 σ7 H locs hF hP hS => ?_)
      exact W.iret (v := r8) hx hb hr (fun t ht hW => ⟨⟨r8, σ7, rfl, hF, (by unfold sm_B; rw [ht]; exact hP)⟩, hS.F ht⟩) hS.2.2 dX6_type_49
theorem dX6_readClass_0 : decode cX6_readClass 0 = .ok (.aload_n 0, 1) := by decide +kernel
theorem dX6_readClass_1 : decode cX6_readClass 1 = .ok (.iconst 0, 1) := by decide +kernel
theorem dX6_readClass_2 : decode cX6_readClass 2 = .ok (.iload_n 1, 1) := by decide +kernel
theorem dX6_readClass_3 : decode cX6_readClass 3 = .ok (.iconst 1, 1) := by decide +kernel
theorem dX6_readClass_4 : decode cX6_readClass 4 = .ok (.isub, 1) := by decide +kernel
theorem dX6_readClass_5 : decode cX6_readClass 5 = .ok (.sipush 255, 3) := by decide +kernel
theorem dX6_readClass_8 : decode cX6_readClass 8 = .ok (.invokevirtual 34, 3) := by decide +kernel
theorem dX6_readClass_11 : decode cX6_readClass 11 = .ok (.istore_n 2, 1) := by decide +kernel
theorem dX6_readClass_12 : decode cX6_readClass 12 = .ok (.aload_n 0, 1) := by decide +kernel
theorem dX6_readClass_13 : decode cX6_readClass 13 = .ok (.getfield 31, 3) := by decide +kernel
theorem dX6_readClass_16 : decode cX6_readClass 16 = .ok (.iconst (-1), 1) := by decide +kernel
theorem dX6_readClass_17 : decode cX6_readClass 17 = .ok (.if_icmp .eq 4, 3) := by decide +kernel
theorem dX6_readClass_20 : decode cX6_readClass 20 = .ok (.return_, 1) := by decide +kernel
theorem dX6_readClass_21 : decode cX6_readClass 21 = .ok (.aload_n 0, 1) := by decide +kernel
theorem dX6_readClass_22 : decode cX6_readClass 22 = .ok (.getfield 21, 3) := by decide +kernel
theorem dX6_readClass_25 : decode cX6_readClass 25 = .ok (.iload_n 1, 1) := by decide +kernel
theorem dX6_readClass_26 : decode cX6_readClass 26 = .ok (.iload_n 2, 1) := by decide +kernel
theorem dX6_readClass_27 : decode cX6_readClass 27 = .ok (.sipush 255, 3) := by decide +kernel
theorem dX6_readClass_30 : decode cX6_readClass 30 = .ok (.if_icmp .ne 7, 3) := by decide +kernel
theorem dX6_readClass_33 : decode cX6_readClass 33 = .ok (.iconst (-1), 1) := by decide +kernel
theorem dX6_readClass_34 : decode cX6_readClass 34 = .ok (.goto 4, 3) := by decide +kernel
theorem dX6_readClass_37 : decode cX6_readClass 37 = .ok (.iload_n 2, 1) := by decide +kernel
theorem dX6_readClass_38 : decode cX6_readClass 38 = .ok (.invokevirtual 66, 3) := by decide +kernel
theorem dX6_readClass_41 : decode cX6_readClass 41 = .ok (.aload_n 0, 1) := by decide +kernel
theorem dX6_readClass_42 : decode cX6_readClass 42 = .ok (.iconst 0, 1) := by decide +kernel
theorem dX6_readClass_43 : decode cX6_readClass 43 = .ok (.bipush 15, 2) := by decide +kernel
theorem dX6_readClass_45 : decode cX6_readClass 45 = .ok (.aload_n 0, 1) := by decide +kernel
theorem dX6_readClass_46 : decode cX6_readClass 46 = .ok (.getfield 21, 3) := by decide +kernel
theorem dX6_readClass_49 : decode cX6_readClass 49 = .ok (.getfield 70, 3) := by decide +kernel
theorem dX6_readClass_52 : decode cX6_readClass 52 = .ok (.iload_n 1, 1) := by decide +kernel
theorem dX6_readClass_53 : decode cX6_readClass 53 = .ok (.iaload, 1) := by decide +kernel
theorem dX6_readClass_54 : decode cX6_readClass 54 = .ok (.isub, 1) := by decide +kernel
theorem dX6_readClass_55 : decode cX6_readClass 55 = .ok (.iconst (-1), 1) := by decide +kernel
theorem dX6_readClass_56 : decode cX6_readClass 56 = .ok (.invokevirtual 34, 3) := by decide +kernel
theorem dX6_readClass_59 : decode cX6_readClass 59 = .ok (.istore_n 3, 1) := by decide +kernel
theorem dX6_readClass_60 : decode cX6_readClass 60 = .ok (.iconst 0, 1) := by decide +kernel
theorem dX6_readClass_61 : decode cX6_readClass 61 = .ok (.istore 4, 2) := by decide +kernel
theorem dX6_readClass_63 : decode cX6_readClass 63 = .ok (.iload 4, 2) := by decide +kernel
theorem dX6_readClass_65 : decode cX6_readClass 65 = .ok (.iload_n 3, 1) := by decide +kernel
theorem dX6_readClass_66 : decode cX6_readClass 66 = .ok (.if_icmp .ge 57, 3) := by decide +kernel
theorem dX6_readClass_69 : decode cX6_readClass 69 = .ok (.aload_n 0, 1) := by decide +kernel
theorem dX6_readClass_70 : decode cX6_readClass 70 = .ok (.getfield 31, 3) := by decide +kernel
theorem dX6_readClass_73 : decode cX6_readClass 73 = .ok (.iconst (-1), 1) := by decide +kernel
theorem dX6_readClass_74 : decode cX6_readClass 74 = .ok (.if_icmp .ne 49, 3) := by decide +kernel
theorem dX6_readClass_77 : decode cX6_readClass 77 = .ok (.aload_n 0, 1) := by decide +kernel
theorem dX6_readClass_78 : decode cX6_readClass 78 = .ok (.getfield 21, 3) := by decide +kernel
theorem dX6_readClass_81 : decode cX6_readClass 81 = .ok (.getfield 73, 3) := by decide +kernel
theorem dX6_readClass_84 : decode cX6_readClass 84 = .ok (.iload_n 1, 1) := by decide +kernel
theorem dX6_readClass_85 : decode cX6_readClass 85 = .ok (.bipush 15, 2) := by decide +kernel
theorem dX6_readClass_87 : decode cX6_readClass 87 = .ok (.imul, 1) := by decide +kernel
theorem dX6_readClass_88 : decode cX6_readClass 88 = .ok (.aload_n 0, 1) := by decide +kernel
theorem dX6_readClass_89 : decode cX6_readClass 89 = .ok (.getfield 21, 3) := by decide +kernel
theorem dX6_readClass_92 : decode cX6_readClass 92 = .ok (.getfield 70, 3) := by decide +kernel
theorem dX6_readClass_95 : decode cX6_readClass 95 = .ok (.iload_n 1, 1) := by decide +kernel
theorem dX6_readClass_96 : decode cX6_readClass 96 = .ok (.iaload, 1) := by decide +kernel
theorem dX6_readClass_97 : decode cX6_readClass 97 = .ok (.iadd, 1) := by decide +kernel
theorem dX6_readClass_98 : decode cX6_readClass 98 = .ok (.aload_n 0, 1) := by decide +kernel
theorem dX6_readClass_99 : decode cX6_readClass 99 = .ok (.iconst (-1), 1) := by decide +kernel
theorem dX6_readClass_100 : decode cX6_readClass 100 = .ok (.invokevirtual 76, 3) := by decide +kernel
theorem dX6_readClass_103 : decode cX6_readClass 103 = .ok (.iastore, 1) := by decide +kernel
theorem dX6_readClass_104 : decode cX6_readClass 104 = .ok (.aload_n 0, 1) := by decide +kernel
theorem dX6_readClass_105 : decode cX6_readClass 105 = .ok (.getfield 21, 3) := by decide +kernel
theorem dX6_readClass_108 : decode cX6_readClass 108 = .ok (.getfield 70, 3) := by decide +kernel
theorem dX6_readClass_111 : decode cX6_readClass 111 = .ok (.iload_n 1, 1) := by decide +kernel
theorem dX6_readClass_112 : decode cX6_readClass 112 = .ok (.dup2, 1) := by decide +kernel
theorem dX6_readClass_113 : decode cX6_readClass 113 = .ok (.iaload, 1) := by decide +kernel
theorem dX6_readClass_114 : decode cX6_readClass 114 = .ok (.iconst 1, 1) := by decide +kernel
theorem dX6_readClass_115 : decode cX6_readClass 115 = .ok (.iadd, 1) := by decide +kernel
theorem dX6_readClass_116 : decode cX6_readClass 116 = .ok (.iastore, 1) := by decide +kernel
theorem dX6_readClass_117 : decode cX6_readClass 117 = .ok (.iinc 4 1, 3) := by decide +kernel
theorem dX6_readClass_120 : decode cX6_readClass 120 = .ok (.goto (-57), 3) := by decide +kernel
theorem dX6_readClass_123 : decode cX6_readClass 123 = .ok (.aload_n 0, 1) := by decide +kernel
theorem dX6_readClass_124 : decode cX6_readClass 124 = .ok (.iconst 0, 1) := by decide +kernel
theorem dX6_readClass_125 : decode cX6_readClass 125 = .ok (.bipush 16, 2) := by decide +kernel
theorem dX6_readClass_127 : decode cX6_readClass 127 = .ok (.iconst (-1), 1) := by decide +kernel
theorem dX6_readClass_128 : decode cX6_readClass 128 = .ok (.invokevirtual 34, 3) := by decide +kernel
theorem dX6_readClass_131 : decode cX6_readClass 131 = .ok (.istore 4, 2) := by decide +kernel
theorem dX6_readClass_133 : decode cX6_readClass 133 = .ok (.iconst 0, 1) := by decide +kernel
theorem dX6_readClass_134 : decode cX6_readClass 134 = .ok (.istore 5, 2) := by decide +kernel
theorem dX6_readClass_136 : decode cX6_readClass 136 = .ok (.iconst 0, 1) := by decide +kernel
theorem dX6_readClass_137 : decode cX6_readClass 137 = .ok (.istore 6, 2) := by decide +kernel
theorem dX6_readClass_139 : decode cX6_readClass 139 = .ok (.iload 6, 2) := by decide +kernel
theorem dX6_readClass_141 : decode cX6_readClass 141 = .ok (.iload 4, 2) := by decide +kernel
theorem dX6_readClass_143 : decode cX6_readClass 143 = .ok (.if_icmp .ge 77, 3) := by decide +kernel
theorem dX6_readClass_146 : decode cX6_readClass 146 = .ok (.aload_n 0, 1) := by decide +kernel
theorem dX6_readClass_147 : decode cX6_readClass 147 = .ok (.getfield 31, 3) := by decide +kernel
theorem dX6_readClass_150 : decode cX6_readClass 150 = .ok (.iconst (-1), 1) := by decide +kernel
theorem dX6_readClass_151 : decode cX6_readClass 151 = .ok (.if_icmp .ne 69, 3) := by decide +kernel
theorem dX6_readClass_154 : decode cX6_readClass 154 = .ok (.aload_n 0, 1) := by decide +kernel
theorem dX6_readClass_155 : decode cX6_readClass 155 = .ok (.iload 5, 2) := by decide +kernel
theorem dX6_readClass_157 : decode cX6_readClass 157 = .ok (.bipush 15, 2) := by decide +kernel
theorem dX6_readClass_159 : decode cX6_readClass 159 = .ok (.iconst (-1), 1) := by decide +kernel
theorem dX6_readClass_160 : decode cX6_readClass 160 = .ok (.invokevirtual 34, 3) := by decide +kernel
theorem dX6_readClass_163 : decode cX6_readClass 163 = .ok (.istore 7, 2) := by decide +kernel
theorem dX6_readClass_165 : decode cX6_readClass 165 = .ok (.aload_n 0, 1) := by decide +kernel
theorem dX6_readClass_166 : decode cX6_readClass 166 = .ok (.getfield 21, 3) := by decide +kernel
theorem dX6_readClass_169 : decode cX6_readClass 169 = .ok (.getfield 79, 3) := by decide +kernel
theorem dX6_readClass_172 : decode cX6_readClass 172 = .ok (.iload_n 1, 1) := by decide +kernel
theorem dX6_readClass_173 : decode cX6_readClass 173 = .ok (.bipush 16, 2) := by decide +kernel
theorem dX6_readClass_175 : decode cX6_readClass 175 = .ok (.imul, 1) := by decide +kernel
theorem dX6_readClass_176 : decode cX6_readClass 176 = .ok (.iload 7, 2) := by decide +kernel
theorem dX6_readClass_178 : decode cX6_readClass 178 = .ok (.iadd, 1) := by decide +kernel
theorem dX6_readClass_179 : decode cX6_readClass 179 = .ok (.aload_n 0, 1) := by decide +kernel
theorem dX6_readClass_180 : decode cX6_readClass 180 = .ok (.getfield 27, 3) := by decide +kernel
theorem dX6_readClass_183 : decode cX6_readClass 183 = .ok (.iastore, 1) := by decide +kernel
theorem dX6_readClass_184 : decode cX6_readClass 184 = .ok (.aload_n 0, 1) := by decide +kernel
theorem dX6_readClass_185 : decode cX6_readClass 185 = .ok (.getfield 21, 3) := by decide +kernel
theorem dX6_readClass_188 : decode cX6_readClass 188 = .ok (.getfield 82, 3) := by decide +kernel
theorem dX6_readClass_191 : decode cX6_readClass 191 = .ok (.iload_n 1, 1) := by decide +kernel
theorem dX6_readClass_192 : decode cX6_readClass 192 = .ok (.bipush 16, 2) := by decide +kernel
theorem dX6_readClass_194 : decode cX6_readClass 194 = .ok (.imul, 1) := by decide +kernel
theorem dX6_readClass_195 : decode cX6_readClass 195 = .ok (.iload 7, 2) := by decide +kernel
theorem dX6_readClass_197 : decode cX6_readClass 197 = .ok (.iadd, 1) := by decide +kernel
theorem dX6_readClass_198 : decode cX6_readClass 198 = .ok (.aload_n 0, 1) := by decide +kernel
theorem dX6_readClass_199 : decode cX6_readClass 199 = .ok (.iconst 0, 1) := by decide +kernel
theorem dX6_readClass_200 : decode cX6_readClass 200 = .ok (.sipush 255, 3) := by decide +kernel
theorem dX6_readClass_203 : decode cX6_readClass 203 = .ok (.iconst (-1), 1) := by decide +kernel
theorem dX6_readClass_204 : decode cX6_readClass 204 = .ok (.invokevirtual 34, 3) := by decide +kernel
theorem dX6_readClass_207 : decode cX6_readClass 207 = .ok (.iastore, 1) := by decide +kernel
theorem dX6_readClass_208 : decode cX6_readClass 208 = .ok (.iload 7, 2) := by decide +kernel
theorem dX6_readClass_210 : decode cX6_readClass 210 = .ok (.iconst 1, 1) := by decide +kernel
theorem dX6_readClass_211 : decode cX6_readClass 211 = .ok (.iadd, 1) := by decide +kernel
theorem dX6_readClass_212 : decode cX6_readClass 212 = .ok (.istore 5, 2) := by decide +kernel
theorem dX6_readClass_214 : decode cX6_readClass 214 = .ok (.iinc 6 1, 3) := by decide +kernel
theorem dX6_readClass_217 : decode cX6_readClass 217 = .ok (.goto (-78), 3) := by decide +kernel
theorem dX6_readClass_220 : decode cX6_readClass 220 = .ok (.return_, 1) := by decide +kernel
def wp_X6_readClass : List Cond := .code yX6_readClass cX6_readClass 8 none :: ((((([.fieldLink RX6 31 "SteadyMachine$Reader" "wrong" "I", .fieldLink RX6 21 "SteadyMachine$Reader" "classes" "LSteadyMachine$Classes;", .fieldLink RX6 79 "SteadyMachine$Classes" "slotPlace" "[I", .fieldLink RX6 27 "SteadyMachine$Reader" "at" "I", .fieldLink RX6 82 "SteadyMachine$Classes" "slot" "[I", .fieldLink RX6 73 "SteadyMachine$Classes" "fieldType" "[I", .fieldLink RX6 70 "SteadyMachine$Classes" "fields" "[I"] ++ (wsV RX6 34 RX6 yX6_number wp_X6_number)) ++ (wsV RX6 76 RX6 yX6_type wp_X6_type)) ++ (wsV RX6 66 RX0 yX0_inherit wp_X0_inherit)) ++ wsX00) ++ wsX60)
theorem wq_X6_readClass : wp_X6_readClass.all goodWord = true := wa_c rfl (wa_a (wa_a (wa_a (wa_a (wa_a (by decide +kernel) (wa_V wq_X6_number)) (wa_V wq_X6_type)) (wa_V wq_X0_inherit)) uq_X0) uq_X6)
theorem wt_X6_readClass : GoodIn lw_tbl wp_X6_readClass := wm_c (List.mem_of_getElem? (i := 660) (by decide +kernel)) rfl (wm_a (wm_a (wm_a (wm_a (wm_a (goodIn_r _ [341, 338, 193, 340, 188, 183, 178] (by decide +kernel) (by decide +kernel)) (wm_a (goodIn_r _ [649, 651, 1, 140] (by decide +kernel) (by decide +kernel)) wt_X6_number)) (wm_a (goodIn_r _ [665, 667, 3, 140] (by decide +kernel) (by decide +kernel)) wt_X6_type)) (wm_a (goodIn_r _ [661, 662, 663, 138] (by decide +kernel) (by decide +kernel)) wt_X0_inherit)) ut_X0) ut_X6)
theorem wg_X6_readClass_X6_number_34 : GoodIn wp_X6_readClass (wsV RX6 34 RX6 yX6_number wp_X6_number) := goodIn_sub (fun w h => List.mem_cons_of_mem _ (List.mem_append_left _ (List.mem_append_left _ (List.mem_append_left _ (List.mem_append_left _ (List.mem_append_right _ h)))))) (wa_V wq_X6_number)
theorem wg_X6_readClass_X6_type_76 : GoodIn wp_X6_readClass (wsV RX6 76 RX6 yX6_type wp_X6_type) := goodIn_sub (fun w h => List.mem_cons_of_mem _ (List.mem_append_left _ (List.mem_append_left _ (List.mem_append_left _ (List.mem_append_right _ h))))) (wa_V wq_X6_type)
theorem wg_X6_readClass_X0_inherit_66 : GoodIn wp_X6_readClass (wsV RX6 66 RX0 yX0_inherit wp_X0_inherit) := goodIn_sub (fun w h => List.mem_cons_of_mem _ (List.mem_append_left _ (List.mem_append_left _ (List.mem_append_right _ h)))) (wa_V wq_X0_inherit)
theorem wi_X6_readClass_X0 : ∀ w ∈ wsX00, w ∈ wp_X6_readClass := fun w h => List.mem_cons_of_mem _ (List.mem_append_left _ (List.mem_append_right _ h))
theorem wi_X6_readClass_X6 : ∀ w ∈ wsX60, w ∈ wp_X6_readClass := fun w h => List.mem_cons_of_mem _ (List.mem_append_right _ h)
set_option maxHeartbeats 4000000 in
set_option maxRecDepth 100000 in
theorem c_X6_readClass (l : Launch) (D : va_G) (sz t0 : Nat) (σ : sm_S) (α : sm_A) (p1 : Int32) (K : sm_S → Prop) (hF : mp_X6_readClass σ p1 K) : Met l yX6_readClass wp_X6_readClass { frames := 3, cells := 0, slots := 0, locals := 67 } (sm_P sm_wX sm_tX 37 D sz t0 σ α [.ref (α.1 6), .int p1]) (va_Qv K (sm_B sm_wX D α) (sm_a α 37 sz)) 0 0 (sm_a α 37 sz) := by
  refine Met.ofW (cc := cX6_readClass) (maxL := 8) (ret := none) (by decide) rfl ?_
  intro p e s m args below meth c s₁ B hml hv
  obtain ⟨rfl, hsz, hP, hK, hD0, hE⟩ := hv
  have hx := B.exec
  have hb := B.bytes
  have hr := B.returns
  have hts := atoms_spec (ws := wp_X6_readClass) B.pre
  have hown : s.vm.findClass RX6 = some m.cls := findClass_of_methodNamed B.named
  have hlocks := B.notSynchronized
  subst hsz
  have hD : sm_D (sm_a α 37 s.heap.size) α 37 := hD0.own
  have hA : ∀ q : Nat, s.heap.size ≤ q → sm_a α 37 s.heap.size q := fun q h => Or.inr h
  generalize hAe : sm_a α 37 s.heap.size = A at hD hA hE ⊢
  have hS : va_S A s.heap s.heap [] := va_S.rf
  have in_X0 : ∀ w ∈ wsX00, w ∈ wp_X6_readClass := wi_X6_readClass_X0
  have in_X6 : ∀ w ∈ wsX60, w ∈ wp_X6_readClass := wi_X6_readClass_X6
  have k_0 := hts (.fieldLink RX6 31 "SteadyMachine$Reader" "wrong" "I") (by decide +kernel)
  have k_1 := hts (.fieldLink RX6 21 "SteadyMachine$Reader" "classes" "LSteadyMachine$Classes;") (by decide +kernel)
  have k_2 := hts (.fieldLink RX6 79 "SteadyMachine$Classes" "slotPlace" "[I") (by decide +kernel)
  have k_3 := hts (.fieldLink RX6 27 "SteadyMachine$Reader" "at" "I") (by decide +kernel)
  have k_4 := hts (.fieldLink RX6 82 "SteadyMachine$Classes" "slot" "[I") (by decide +kernel)
  have k_5 := hts (.fieldLink RX6 73 "SteadyMachine$Classes" "fieldType" "[I") (by decide +kernel)
  have k_6 := hts (.fieldLink RX6 70 "SteadyMachine$Classes" "fields" "[I") (by decide +kernel)
  have hl := lv_entry ([.ref (α.1 6), .int p1]) (n := 8) (Nat.le_of_ble_eq_true rfl)
  rw [lg_entry_eq]
  generalize (lg_sl ([.ref (α.1 6), .int p1]) ++ List.replicate (8 - (lg_sl ([.ref (α.1 6), .int p1])).length) Slot.unset).toArray = ls at hl ⊢
  have hl : lv_has ls 8 [(0, .ref (α.1 6)), (1, .int p1)] := hl
  have B220 : ∀ (σ : sm_S), mp_X6_readClass_220 K σ → sm_J p l e (headSpec wp_X6_readClass { frames := 3, cells := 0, slots := 0, locals := 67 }).room s m ([.ref (α.1 6), .int p1] : List Value).toArray below meth c (MQ below (va_Qv K (sm_B sm_wX D α) A) ([.ref (α.1 6), .int p1] : List Value).toArray s 0 0 A) D A 8 (sm_wX σ α) 220 [] [] := by
    intro σ hF H locs ls hP hS hl
    unfold mp_X6_readClass_220 at hF
    exact W.vret hx hb hr (fun t ht hW => ⟨⟨σ, rfl, hF, (by unfold sm_B; rw [ht]; exact hP)⟩, hS.F ht⟩) hS.2.2 dX6_readClass_220
  have B139 : ∀ (n : Nat) (σ : sm_S) (x1 : Int32) (x4 : Int32) (x5 : Int32) (x6 : Int32), mp_X6_readClass_139 K n σ x1 x4 x5 x6 → sm_J p l e (headSpec wp_X6_readClass { frames := 3, cells := 0, slots := 0, locals := 67 }).room s m ([.ref (α.1 6), .int p1] : List Value).toArray below meth c (MQ below (va_Qv K (sm_B sm_wX D α) A) ([.ref (α.1 6), .int p1] : List Value).toArray s 0 0 A) D A 8 (sm_wX σ α) 139 [(0, .ref (α.1 6)), (1, .int x1), (4, .int x4), (5, .int x5), (6, .int x6)] [] := by
    intro n139
    induction n139 with
    | zero =>
      intro σ x1 x4 x5 x6 hF
      exact hF.elim
    | succ n139 ih139 =>
      intro σ x1 x4 x5 x6 hF H locs ls hP hS hl
      unfold mp_X6_readClass_139 at hF
      refine lv_iload hx hb dX6_readClass_139 (lv_at hl 4 rfl) ?_
      refine lv_iload hx hb dX6_readClass_141 (lv_at hl 2 rfl) ?_
      refine lv_icmp_ge (tgt := 220) hx hb dX6_readClass_143 (by decide) (fun h1 => ?_) (fun h1 => ?_)
      · replace hF := hF.1 h1
        exact B220 σ hF H locs ls hP hS (lv_sub hl [] rfl)
      · replace hF := hF.2 h1
        refine lv_aload_n hx hb dX6_readClass_146 rfl (lv_at hl 0 rfl) ?_
        refine va_get (D := D) (ci := 6) (v := .int (σ.1 21)) (C := RX6) (T := TX6) (N := 5) hx hb hts in_X6 hown hK hP 6 (sm_gX6 σ α) rfl 4 (by decide) k_0 (fun _ h9 => h9) rfl dX6_readClass_147 ?_
        refine lv_iconst (v := -1) hx hb dX6_readClass_150 (by decide) ?_
        refine lv_icmp_ne (tgt := 220) hx hb dX6_readClass_151 (by decide) (fun h2 => ?_) (fun h2 => ?_)
        · replace hF := hF.1 h2
          exact B220 σ hF H locs ls hP hS (lv_sub hl [] rfl)
        · replace hF := hF.2 h2
          refine lv_aload_n hx hb dX6_readClass_154 rfl (lv_at hl 0 rfl) ?_
          refine lv_iload hx hb dX6_readClass_155 (lv_at hl 3 rfl) ?_
          refine lv_bipush (v := 15) hx hb dX6_readClass_157 (by decide) ?_
          refine lv_iconst (v := -1) hx hb dX6_readClass_159 (by decide) ?_
          refine sm_vi (As := [.int x5, .int 15, .int (-1)]) (rest := []) hP hK hD hE hS hA ⟨hx, hb, hml, hown, hts⟩ hl.1 (c_X6_number l D H.size t0 σ α x5 15 (-1) _ hF) (cwV 3 hts wg_X6_readClass_X6_number_34 rfl rfl rfl (by decide +kernel) ⟨Nat.le_of_ble_eq_true rfl, Nat.le_of_ble_eq_true rfl⟩) (va_recv hK hP (ci := 6) (q0 := 6) rfl (sm_gX6 σ α)) rfl rfl (Nat.le_of_ble_eq_true rfl) dX6_readClass_160 ⟨Nat.zero_le _, Nat.zero_le _⟩ (fun r4 σ3 H locs hF hP hS => ?_)
          refine lv_istore (lv' := [(7, .int r4), (0, .ref (α.1 6)), (1, .int x1), (4, .int x4), (5, .int x5), (6, .int x6)]) hx hb dX6_readClass_163 hl (by decide) rfl (fun ls hl => ?_)
          refine lv_aload_n hx hb dX6_readClass_165 rfl (lv_at hl 1 rfl) ?_
          refine va_get (D := D) (ci := 6) (v := .ref (α.1 0)) (C := RX6) (T := TX6) (N := 5) hx hb hts in_X6 hown hK hP 6 (sm_gX6 σ3 α) rfl 1 (by decide) k_1 (fun _ h9 => h9) rfl dX6_readClass_166 ?_
          refine va_get (D := D) (ci := 0) (v := .ref (α.1 15)) (C := RX0) (T := TX0) (N := 7) hx hb hts in_X0 hown hK hP 0 (sm_gX0 σ3 α) rfl 5 (by decide) k_2 (fun _ h9 => h9) rfl dX6_readClass_169 ?_
          refine lv_iload_n hx hb dX6_readClass_172 rfl (lv_at hl 2 rfl) ?_
          refine lv_bipush (v := 16) hx hb dX6_readClass_173 (by decide) ?_
          refine lv_imul hx hb dX6_readClass_175 ?_
          refine lv_iload hx hb dX6_readClass_176 (lv_at hl 0 rfl) ?_
          refine lv_iadd hx hb dX6_readClass_178 ?_
          refine lv_aload_n hx hb dX6_readClass_179 rfl (lv_at hl 1 rfl) ?_
          refine va_get (D := D) (ci := 6) (v := .int (σ3.1 20)) (C := RX6) (T := TX6) (N := 5) hx hb hts in_X6 hown hK hP 6 (sm_gX6 σ3 α) rfl 3 (by decide) k_3 (fun _ h9 => h9) rfl dX6_readClass_180 ?_
          obtain ⟨h5, hF⟩ := hF
          refine va_iast (n := (σ3.2.2.1 15)) (f := (σ3.2.2.2.1 15)) (x := (σ3.1 20)) hx hb hK hP (hD.to (sm_wX_m _ _)) hS 15 4 (sm_aX15 σ3 α) (sm_yX15 α) h5 dX6_readClass_183 (fun H locs hP _ hS => ?_)
          rw [sm_rX15] at hP
          obtain ⟨σ6, eσ6⟩ : ∃ x : sm_S, x = sm_r σ3 15 (upd (σ3.2.2.2.1 15) ((x1 * 16) + r4).toNatClampNeg (σ3.1 20)) := ⟨_, rfl⟩
          replace hF := hF σ6 eσ6
          rw [← eσ6] at hP
          refine lv_aload_n hx hb dX6_readClass_184 rfl (lv_at hl 1 rfl) ?_
          refine va_get (D := D) (ci := 6) (v := .ref (α.1 0)) (C := RX6) (T := TX6) (N := 5) hx hb hts in_X6 hown hK hP 6 (sm_gX6 σ6 α) rfl 1 (by decide) k_1 (fun _ h9 => h9) rfl dX6_readClass_185 ?_
          refine va_get (D := D) (ci := 0) (v := .ref (α.1 14)) (C := RX0) (T := TX0) (N := 7) hx hb hts in_X0 hown hK hP 0 (sm_gX0 σ6 α) rfl 4 (by decide) k_4 (fun _ h9 => h9) rfl dX6_readClass_188 ?_
          refine lv_iload_n hx hb dX6_readClass_191 rfl (lv_at hl 2 rfl) ?_
          refine lv_bipush (v := 16) hx hb dX6_readClass_192 (by decide) ?_
          refine lv_imul hx hb dX6_readClass_194 ?_
          refine lv_iload hx hb dX6_readClass_195 (lv_at hl 0 rfl) ?_
          refine lv_iadd hx hb dX6_readClass_197 ?_
          refine lv_aload_n hx hb dX6_readClass_198 rfl (lv_at hl 1 rfl) ?_
          refine lv_iconst (v := 0) hx hb dX6_readClass_199 (by decide) ?_
          refine lv_sipush (v := 255) hx hb dX6_readClass_200 (by decide) ?_
          refine lv_iconst (v := -1) hx hb dX6_readClass_203 (by decide) ?_
          refine sm_vi (As := [.int 0, .int 255, .int (-1)]) (rest := [.int ((x1 * 16) + r4), .ref (α.1 14)]) hP hK hD hE hS hA ⟨hx, hb, hml, hown, hts⟩ hl.1 (c_X6_number l D H.size t0 σ6 α 0 255 (-1) _ hF) (cwV 3 hts wg_X6_readClass_X6_number_34 rfl rfl rfl (by decide +kernel) ⟨Nat.le_of_ble_eq_true rfl, Nat.le_of_ble_eq_true rfl⟩) (va_recv hK hP (ci := 6) (q0 := 6) rfl (sm_gX6 σ6 α)) rfl rfl (Nat.le_of_ble_eq_true rfl) dX6_readClass_204 ⟨Nat.zero_le _, Nat.zero_le _⟩ (fun r8 σ7 H locs hF hP hS => ?_)
          obtain ⟨h9, hF⟩ := hF
          refine va_iast (n := (σ7.2.2.1 14)) (f := (σ7.2.2.2.1 14)) (x := r8) hx hb hK hP (hD.to (sm_wX_m _ _)) hS 14 3 (sm_aX14 σ7 α) (sm_yX14 α) h9 dX6_readClass_207 (fun H locs hP _ hS => ?_)
          rw [sm_rX14] at hP
          obtain ⟨σ10, eσ10⟩ : ∃ x : sm_S, x = sm_r σ7 14 (upd (σ7.2.2.2.1 14) ((x1 * 16) + r4).toNatClampNeg r8) := ⟨_, rfl⟩
          replace hF := hF σ10 eσ10
          rw [← eσ10] at hP
          refine lv_iload hx hb dX6_readClass_208 (lv_at hl 0 rfl) ?_
          refine lv_iconst (v := 1) hx hb dX6_readClass_210 (by decide) ?_
          refine lv_iadd hx hb dX6_readClass_211 ?_
          refine lv_topi (fun v11 ev11 => ?_)
          replace hF := hF v11 ev11
          refine lv_istore (lv' := [(5, .int v11), (7, .int r4), (0, .ref (α.1 6)), (1, .int x1), (4, .int x4), (6, .int x6)]) hx hb dX6_readClass_212 hl (by decide) rfl (fun ls hl => ?_)
          obtain ⟨v12, ev12⟩ : ∃ y : Int32, y = x6 + 1 := ⟨_, rfl⟩
          replace hF := hF v12 ev12
          refine lv_iinc (v := v12) (lv' := [(6, .int v12), (5, .int v11), (7, .int r4), (0, .ref (α.1 6)), (1, .int x1), (4, .int x4)]) hx hb dX6_readClass_214 hl (k := 5) rfl (by rw [ev12]; rfl) (by decide) rfl (fun ls hl => ?_)
          refine lv_goto (tgt := 139) hx hb dX6_readClass_217 (by decide) ?_
          exact ih139 σ10 x1 x4 v11 v12 hF H locs ls hP hS (lv_sub hl [3, 4, 5, 1, 0] rfl)
  have B123 : ∀ (σ : sm_S) (x1 : Int32), mp_X6_readClass_123 K σ x1 → sm_J p l e (headSpec wp_X6_readClass { frames := 3, cells := 0, slots := 0, locals := 67 }).room s m ([.ref (α.1 6), .int p1] : List Value).toArray below meth c (MQ below (va_Qv K (sm_B sm_wX D α) A) ([.ref (α.1 6), .int p1] : List Value).toArray s 0 0 A) D A 8 (sm_wX σ α) 123 [(0, .ref (α.1 6)), (1, .int x1)] [] := by
    intro σ x1 hF H locs ls hP hS hl
    unfold mp_X6_readClass_123 at hF
    refine lv_aload_n hx hb dX6_readClass_123 rfl (lv_at hl 0 rfl) ?_
    refine lv_iconst (v := 0) hx hb dX6_readClass_124 (by decide) ?_
    refine lv_bipush (v := 16) hx hb dX6_readClass_125 (by decide) ?_
    refine lv_iconst (v := -1) hx hb dX6_readClass_127 (by decide) ?_
    refine sm_vi (As := [.int 0, .int 16, .int (-1)]) (rest := []) hP hK hD hE hS hA ⟨hx, hb, hml, hown, hts⟩ hl.1 (c_X6_number l D H.size t0 σ α 0 16 (-1) _ hF) (cwV 3 hts wg_X6_readClass_X6_number_34 rfl rfl rfl (by decide +kernel) ⟨Nat.le_of_ble_eq_true rfl, Nat.le_of_ble_eq_true rfl⟩) (va_recv hK hP (ci := 6) (q0 := 6) rfl (sm_gX6 σ α)) rfl rfl (Nat.le_of_ble_eq_true rfl) dX6_readClass_128 ⟨Nat.zero_le _, Nat.zero_le _⟩ (fun r14 σ13 H locs hF hP hS => ?_)
    refine lv_istore (lv' := [(4, .int r14), (0, .ref (α.1 6)), (1, .int x1)]) hx hb dX6_readClass_131 hl (by decide) rfl (fun ls hl => ?_)
    refine lv_iconst (v := 0) hx hb dX6_readClass_133 (by decide) ?_
    refine lv_istore (lv' := [(5, .int 0), (4, .int r14), (0, .ref (α.1 6)), (1, .int x1)]) hx hb dX6_readClass_134 hl (by decide) rfl (fun ls hl => ?_)
    refine lv_iconst (v := 0) hx hb dX6_readClass_136 (by decide) ?_
    refine lv_istore (lv' := [(6, .int 0), (5, .int 0), (4, .int r14), (0, .ref (α.1 6)), (1, .int x1)]) hx hb dX6_readClass_137 hl (by decide) rfl (fun ls hl => ?_)
    obtain ⟨n139, hF⟩ := hF
    exact B139 n139 σ13 x1 r14 0 0 hF H locs ls hP hS (lv_sub hl [3, 4, 2, 1, 0] rfl)
  have B63 : ∀ (n : Nat) (σ : sm_S) (x1 : Int32) (x3 : Int32) (x4 : Int32), mp_X6_readClass_63 K n σ x1 x3 x4 → sm_J p l e (headSpec wp_X6_readClass { frames := 3, cells := 0, slots := 0, locals := 67 }).room s m ([.ref (α.1 6), .int p1] : List Value).toArray below meth c (MQ below (va_Qv K (sm_B sm_wX D α) A) ([.ref (α.1 6), .int p1] : List Value).toArray s 0 0 A) D A 8 (sm_wX σ α) 63 [(0, .ref (α.1 6)), (1, .int x1), (3, .int x3), (4, .int x4)] [] := by
    intro n63
    induction n63 with
    | zero =>
      intro σ x1 x3 x4 hF
      exact hF.elim
    | succ n63 ih63 =>
      intro σ x1 x3 x4 hF H locs ls hP hS hl
      unfold mp_X6_readClass_63 at hF
      refine lv_iload hx hb dX6_readClass_63 (lv_at hl 3 rfl) ?_
      refine lv_iload_n hx hb dX6_readClass_65 rfl (lv_at hl 2 rfl) ?_
      refine lv_icmp_ge (tgt := 123) hx hb dX6_readClass_66 (by decide) (fun h15 => ?_) (fun h15 => ?_)
      · replace hF := hF.1 h15
        exact B123 σ x1 hF H locs ls hP hS (lv_sub hl [0, 1] rfl)
      · replace hF := hF.2 h15
        refine lv_aload_n hx hb dX6_readClass_69 rfl (lv_at hl 0 rfl) ?_
        refine va_get (D := D) (ci := 6) (v := .int (σ.1 21)) (C := RX6) (T := TX6) (N := 5) hx hb hts in_X6 hown hK hP 6 (sm_gX6 σ α) rfl 4 (by decide) k_0 (fun _ h9 => h9) rfl dX6_readClass_70 ?_
        refine lv_iconst (v := -1) hx hb dX6_readClass_73 (by decide) ?_
        refine lv_icmp_ne (tgt := 123) hx hb dX6_readClass_74 (by decide) (fun h16 => ?_) (fun h16 => ?_)
        · replace hF := hF.1 h16
          exact B123 σ x1 hF H locs ls hP hS (lv_sub hl [0, 1] rfl)
        · replace hF := hF.2 h16
          refine lv_aload_n hx hb dX6_readClass_77 rfl (lv_at hl 0 rfl) ?_
          refine va_get (D := D) (ci := 6) (v := .ref (α.1 0)) (C := RX6) (T := TX6) (N := 5) hx hb hts in_X6 hown hK hP 6 (sm_gX6 σ α) rfl 1 (by decide) k_1 (fun _ h9 => h9) rfl dX6_readClass_78 ?_
          refine va_get (D := D) (ci := 0) (v := .ref (α.1 13)) (C := RX0) (T := TX0) (N := 7) hx hb hts in_X0 hown hK hP 0 (sm_gX0 σ α) rfl 3 (by decide) k_5 (fun _ h9 => h9) rfl dX6_readClass_81 ?_
          refine lv_iload_n hx hb dX6_readClass_84 rfl (lv_at hl 1 rfl) ?_
          refine lv_bipush (v := 15) hx hb dX6_readClass_85 (by decide) ?_
          refine lv_imul hx hb dX6_readClass_87 ?_
          refine lv_aload_n hx hb dX6_readClass_88 rfl (lv_at hl 0 rfl) ?_
          refine va_get (D := D) (ci := 6) (v := .ref (α.1 0)) (C := RX6) (T := TX6) (N := 5) hx hb hts in_X6 hown hK hP 6 (sm_gX6 σ α) rfl 1 (by decide) k_1 (fun _ h9 => h9) rfl dX6_readClass_89 ?_
          refine va_get (D := D) (ci := 0) (v := .ref (α.1 12)) (C := RX0) (T := TX0) (N := 7) hx hb hts in_X0 hown hK hP 0 (sm_gX0 σ α) rfl 2 (by decide) k_6 (fun _ h9 => h9) rfl dX6_readClass_92 ?_
          refine lv_iload_n hx hb dX6_readClass_95 rfl (lv_at hl 1 rfl) ?_
          obtain ⟨h17, hF⟩ := hF
          refine va_iald (n := (σ.2.2.1 12)) (f := (σ.2.2.2.1 12)) hx hb hK hP 12 1 (sm_aX12 σ α) (sm_yX12 α) h17 dX6_readClass_96 ?_
          refine lv_iadd hx hb dX6_readClass_97 ?_
          refine lv_aload_n hx hb dX6_readClass_98 rfl (lv_at hl 0 rfl) ?_
          refine lv_iconst (v := -1) hx hb dX6_readClass_99 (by decide) ?_
          refine sm_vi (As := [.int (-1)]) (rest := [.int ((x1 * 15) + ((σ.2.2.2.1 12) x1.toNatClampNeg)), .ref (α.1 13)]) hP hK hD hE hS hA ⟨hx, hb, hml, hown, hts⟩ hl.1 (c_X6_type l D H.size t0 σ α (-1) _ hF) (cwV 1 hts wg_X6_readClass_X6_type_76 rfl rfl rfl (by decide +kernel) ⟨Nat.le_of_ble_eq_true rfl, Nat.le_of_ble_eq_true rfl⟩) (va_recv hK hP (ci := 6) (q0 := 6) rfl (sm_gX6 σ α)) rfl rfl (Nat.le_of_ble_eq_true rfl) dX6_readClass_100 ⟨Nat.zero_le _, Nat.zero_le _⟩ (fun r19 σ18 H locs hF hP hS => ?_)
          obtain ⟨h20, hF⟩ := hF
          refine va_iast (n := (σ18.2.2.1 13)) (f := (σ18.2.2.2.1 13)) (x := r19) hx hb hK hP (hD.to (sm_wX_m _ _)) hS 13 2 (sm_aX13 σ18 α) (sm_yX13 α) h20 dX6_readClass_103 (fun H locs hP _ hS => ?_)
          rw [sm_rX13] at hP
          obtain ⟨σ21, eσ21⟩ : ∃ x : sm_S, x = sm_r σ18 13 (upd (σ18.2.2.2.1 13) ((x1 * 15) + ((σ.2.2.2.1 12) x1.toNatClampNeg)).toNatClampNeg r19) := ⟨_, rfl⟩
          replace hF := hF σ21 eσ21
          rw [← eσ21] at hP
          refine lv_aload_n hx hb dX6_readClass_104 rfl (lv_at hl 0 rfl) ?_
          refine va_get (D := D) (ci := 6) (v := .ref (α.1 0)) (C := RX6) (T := TX6) (N := 5) hx hb hts in_X6 hown hK hP 6 (sm_gX6 σ21 α) rfl 1 (by decide) k_1 (fun _ h9 => h9) rfl dX6_readClass_105 ?_
          refine va_get (D := D) (ci := 0) (v := .ref (α.1 12)) (C := RX0) (T := TX0) (N := 7) hx hb hts in_X0 hown hK hP 0 (sm_gX0 σ21 α) rfl 2 (by decide) k_6 (fun _ h9 => h9) rfl dX6_readClass_108 ?_
          refine lv_iload_n hx hb dX6_readClass_111 rfl (lv_at hl 1 rfl) ?_
          refine lv_dup2_11 hx hb dX6_readClass_112 rfl rfl ?_
          obtain ⟨h22, hF⟩ := hF
          refine va_iald (n := (σ21.2.2.1 12)) (f := (σ21.2.2.2.1 12)) hx hb hK hP 12 1 (sm_aX12 σ21 α) (sm_yX12 α) h22 dX6_readClass_113 ?_
          refine lv_iconst (v := 1) hx hb dX6_readClass_114 (by decide) ?_
          refine lv_iadd hx hb dX6_readClass_115 ?_
          obtain ⟨h23, hF⟩ := hF
          refine va_iast (n := (σ21.2.2.1 12)) (f := (σ21.2.2.2.1 12)) (x := (((σ21.2.2.2.1 12) x1.toNatClampNeg) + 1)) hx hb hK hP (hD.to (sm_wX_m _ _)) hS 12 1 (sm_aX12 σ21 α) (sm_yX12 α) h23 dX6_readClass_116 (fun H locs hP _ hS => ?_)
          rw [sm_rX12] at hP
          obtain ⟨σ24, eσ24⟩ : ∃ x : sm_S, x = sm_r σ21 12 (upd (σ21.2.2.2.1 12) x1.toNatClampNeg (((σ21.2.2.2.1 12) x1.toNatClampNeg) + 1)) := ⟨_, rfl⟩
          replace hF := hF σ24 eσ24
          rw [← eσ24] at hP
          obtain ⟨v25, ev25⟩ : ∃ y : Int32, y = x4 + 1 := ⟨_, rfl⟩
          replace hF := hF v25 ev25
          refine lv_iinc (v := v25) (lv' := [(4, .int v25), (0, .ref (α.1 6)), (1, .int x1), (3, .int x3)]) hx hb dX6_readClass_117 hl (k := 3) rfl (by rw [ev25]; rfl) (by decide) rfl (fun ls hl => ?_)
          refine lv_goto (tgt := 63) hx hb dX6_readClass_120 (by decide) ?_
          exact ih63 σ24 x1 x3 v25 hF H locs ls hP hS (lv_sub hl [1, 2, 3, 0] rfl)
  have B38 : ∀ (σ : sm_S) (x1 : Int32) (y1 : Int32) (y2 : Int32), mp_X6_readClass_38 K σ x1 y1 y2 → sm_J p l e (headSpec wp_X6_readClass { frames := 3, cells := 0, slots := 0, locals := 67 }).room s m ([.ref (α.1 6), .int p1] : List Value).toArray below meth c (MQ below (va_Qv K (sm_B sm_wX D α) A) ([.ref (α.1 6), .int p1] : List Value).toArray s 0 0 A) D A 8 (sm_wX σ α) 38 [(0, .ref (α.1 6)), (1, .int x1)] [.int y2, .int y1, .ref (α.1 0)] := by
    intro σ x1 y1 y2 hF H locs ls hP hS hl
    unfold mp_X6_readClass_38 at hF
    refine sm_vv (As := [.int y1, .int y2]) (rest := []) hP hK hD hE hS hA ⟨hx, hb, hml, hown, hts⟩ hl.1 (c_X0_inherit l D H.size t0 σ α y1 y2 _ hF) (cwV 2 hts wg_X6_readClass_X0_inherit_66 rfl rfl rfl (by decide +kernel) ⟨Nat.le_of_ble_eq_true rfl, Nat.le_of_ble_eq_true rfl⟩) (va_recv hK hP (ci := 0) (q0 := 0) rfl (sm_gX0 σ α)) rfl rfl (Nat.le_of_ble_eq_true rfl) dX6_readClass_38 ⟨Nat.zero_le _, Nat.zero_le _⟩ (fun σ26 H locs hF hP hS => ?_)
    refine lv_aload_n hx hb dX6_readClass_41 rfl (lv_at hl 0 rfl) ?_
    refine lv_iconst (v := 0) hx hb dX6_readClass_42 (by decide) ?_
    refine lv_bipush (v := 15) hx hb dX6_readClass_43 (by decide) ?_
    refine lv_aload_n hx hb dX6_readClass_45 rfl (lv_at hl 0 rfl) ?_
    refine va_get (D := D) (ci := 6) (v := .ref (α.1 0)) (C := RX6) (T := TX6) (N := 5) hx hb hts in_X6 hown hK hP 6 (sm_gX6 σ26 α) rfl 1 (by decide) k_1 (fun _ h9 => h9) rfl dX6_readClass_46 ?_
    refine va_get (D := D) (ci := 0) (v := .ref (α.1 12)) (C := RX0) (T := TX0) (N := 7) hx hb hts in_X0 hown hK hP 0 (sm_gX0 σ26 α) rfl 2 (by decide) k_6 (fun _ h9 => h9) rfl dX6_readClass_49 ?_
    refine lv_iload_n hx hb dX6_readClass_52 rfl (lv_at hl 1 rfl) ?_
    obtain ⟨h27, hF⟩ := hF
    refine va_iald (n := (σ26.2.2.1 12)) (f := (σ26.2.2.2.1 12)) hx hb hK hP 12 1 (sm_aX12 σ26 α) (sm_yX12 α) h27 dX6_readClass_53 ?_
    refine lv_isub hx hb dX6_readClass_54 ?_
    refine lv_iconst (v := -1) hx hb dX6_readClass_55 (by decide) ?_
    refine sm_vi (As := [.int 0, .int (15 - ((σ26.2.2.2.1 12) x1.toNatClampNeg)), .int (-1)]) (rest := []) hP hK hD hE hS hA ⟨hx, hb, hml, hown, hts⟩ hl.1 (c_X6_number l D H.size t0 σ26 α 0 (15 - ((σ26.2.2.2.1 12) x1.toNatClampNeg)) (-1) _ hF) (cwV 3 hts wg_X6_readClass_X6_number_34 rfl rfl rfl (by decide +kernel) ⟨Nat.le_of_ble_eq_true rfl, Nat.le_of_ble_eq_true rfl⟩) (va_recv hK hP (ci := 6) (q0 := 6) rfl (sm_gX6 σ26 α)) rfl rfl (Nat.le_of_ble_eq_true rfl) dX6_readClass_56 ⟨Nat.zero_le _, Nat.zero_le _⟩ (fun r29 σ28 H locs hF hP hS => ?_)
    refine lv_istore_n (lv' := [(3, .int r29), (0, .ref (α.1 6)), (1, .int x1)]) hx hb dX6_readClass_59 rfl hl (by decide) rfl (fun ls hl => ?_)
    refine lv_iconst (v := 0) hx hb dX6_readClass_60 (by decide) ?_
    refine lv_istore (lv' := [(4, .int 0), (3, .int r29), (0, .ref (α.1 6)), (1, .int x1)]) hx hb dX6_readClass_61 hl (by decide) rfl (fun ls hl => ?_)
    obtain ⟨n63, hF⟩ := hF
    exact B63 n63 σ28 x1 r29 0 hF H locs ls hP hS (lv_sub hl [2, 3, 1, 0] rfl)
  unfold mp_X6_readClass at hF
  revert hP hS
  generalize hLo : ([] : List Loc) = locs
  suffices h9 : ∀ (H : Heap) (locs : List Loc), va_P D vwCl (sm_wX σ α) H → va_S A s.heap H locs → W p l e (headSpec wp_X6_readClass { frames := 3, cells := 0, slots := 0, locals := 67 }).room s m ([.ref (α.1 6), .int p1] : List Value).toArray below meth c H locs 0 0 (MQ below (va_Qv K (sm_B sm_wX D α) A) ([.ref (α.1 6), .int p1] : List Value).toArray s 0 0 A) (F0 m 0 ls []) from fun hP hS => h9 s.heap locs hP hS
  intro H locs hP hS
  refine lv_aload_n hx hb dX6_readClass_0 rfl (lv_at hl 0 rfl) ?_
  refine lv_iconst (v := 0) hx hb dX6_readClass_1 (by decide) ?_
  refine lv_iload_n hx hb dX6_readClass_2 rfl (lv_at hl 1 rfl) ?_
  refine lv_iconst (v := 1) hx hb dX6_readClass_3 (by decide) ?_
  refine lv_isub hx hb dX6_readClass_4 ?_
  refine lv_sipush (v := 255) hx hb dX6_readClass_5 (by decide) ?_
  refine sm_vi (As := [.int 0, .int (p1 - 1), .int 255]) (rest := []) hP hK hD hE hS hA ⟨hx, hb, hml, hown, hts⟩ hl.1 (c_X6_number l D H.size t0 σ α 0 (p1 - 1) 255 _ hF) (cwV 3 hts wg_X6_readClass_X6_number_34 rfl rfl rfl (by decide +kernel) ⟨Nat.le_of_ble_eq_true rfl, Nat.le_of_ble_eq_true rfl⟩) (va_recv hK hP (ci := 6) (q0 := 6) rfl (sm_gX6 σ α)) rfl rfl (Nat.le_of_ble_eq_true rfl) dX6_readClass_8 ⟨Nat.zero_le _, Nat.zero_le _⟩ (fun r31 σ30 H locs hF hP hS => ?_)
  refine lv_istore_n (lv' := [(2, .int r31), (0, .ref (α.1 6)), (1, .int p1)]) hx hb dX6_readClass_11 rfl hl (by decide) rfl (fun ls hl => ?_)
  refine lv_aload_n hx hb dX6_readClass_12 rfl (lv_at hl 1 rfl) ?_
  refine va_get (D := D) (ci := 6) (v := .int (σ30.1 21)) (C := RX6) (T := TX6) (N := 5) hx hb hts in_X6 hown hK hP 6 (sm_gX6 σ30 α) rfl 4 (by decide) k_0 (fun _ h9 => h9) rfl dX6_readClass_13 ?_
  refine lv_iconst (v := -1) hx hb dX6_readClass_16 (by decide) ?_
  refine lv_icmp_eq (tgt := 21) hx hb dX6_readClass_17 (by decide) (fun h32 => ?_) (fun h32 => ?_)
  · replace hF := hF.1 h32
    refine lv_aload_n hx hb dX6_readClass_21 rfl (lv_at hl 1 rfl) ?_
    refine va_get (D := D) (ci := 6) (v := .ref (α.1 0)) (C := RX6) (T := TX6) (N := 5) hx hb hts in_X6 hown hK hP 6 (sm_gX6 σ30 α) rfl 1 (by decide) k_1 (fun _ h9 => h9) rfl dX6_readClass_22 ?_
    refine lv_iload_n hx hb dX6_readClass_25 rfl (lv_at hl 2 rfl) ?_
    refine lv_iload_n hx hb dX6_readClass_26 rfl (lv_at hl 0 rfl) ?_
    refine lv_sipush (v := 255) hx hb dX6_readClass_27 (by decide) ?_
    refine lv_icmp_ne (tgt := 37) hx hb dX6_readClass_30 (by decide) (fun h33 => ?_) (fun h33 => ?_)
    · replace hF := hF.1 h33
      refine lv_iload_n hx hb dX6_readClass_37 rfl (lv_at hl 0 rfl) ?_
      exact B38 σ30 p1 p1 r31 hF H locs ls hP hS (lv_sub hl [1, 2] rfl)
    · replace hF := hF.2 h33
      refine lv_iconst (v := -1) hx hb dX6_readClass_33 (by decide) ?_
      refine lv_goto (tgt := 38) hx hb dX6_readClass_34 (by decide) ?_
      exact B38 σ30 p1 p1 (-1) hF H locs ls hP hS (lv_sub hl [1, 2] rfl)
  · replace hF := hF.2 h32
    exact W.vret hx hb hr (fun t ht hW => ⟨⟨σ30, rfl, hF, (by unfold sm_B; rw [ht]; exact hP)⟩, hS.F ht⟩) hS.2.2 dX6_readClass_20
theorem dX6_readFirst_0 : decode cX6_readFirst 0 = .ok (.aload_n 0, 1) := by decide +kernel
theorem dX6_readFirst_1 : decode cX6_readFirst 1 = .ok (.getfield 27, 3) := by decide +kernel
theorem dX6_readFirst_4 : decode cX6_readFirst 4 = .ok (.istore_n 1, 1) := by decide +kernel
theorem dX6_readFirst_5 : decode cX6_readFirst 5 = .ok (.aload_n 0, 1) := by decide +kernel
theorem dX6_readFirst_6 : decode cX6_readFirst 6 = .ok (.iconst 0, 1) := by decide +kernel
theorem dX6_readFirst_7 : decode cX6_readFirst 7 = .ok (.aload_n 0, 1) := by decide +kernel
theorem dX6_readFirst_8 : decode cX6_readFirst 8 = .ok (.getfield 26, 3) := by decide +kernel
theorem dX6_readFirst_11 : decode cX6_readFirst 11 = .ok (.getfield 51, 3) := by decide +kernel
theorem dX6_readFirst_14 : decode cX6_readFirst 14 = .ok (.iconst 1, 1) := by decide +kernel
theorem dX6_readFirst_15 : decode cX6_readFirst 15 = .ok (.isub, 1) := by decide +kernel
theorem dX6_readFirst_16 : decode cX6_readFirst 16 = .ok (.iconst (-1), 1) := by decide +kernel
theorem dX6_readFirst_17 : decode cX6_readFirst 17 = .ok (.invokevirtual 34, 3) := by decide +kernel
theorem dX6_readFirst_20 : decode cX6_readFirst 20 = .ok (.istore_n 2, 1) := by decide +kernel
theorem dX6_readFirst_21 : decode cX6_readFirst 21 = .ok (.aload_n 0, 1) := by decide +kernel
theorem dX6_readFirst_22 : decode cX6_readFirst 22 = .ok (.getfield 31, 3) := by decide +kernel
theorem dX6_readFirst_25 : decode cX6_readFirst 25 = .ok (.iconst (-1), 1) := by decide +kernel
theorem dX6_readFirst_26 : decode cX6_readFirst 26 = .ok (.if_icmp .ne 35, 3) := by decide +kernel
theorem dX6_readFirst_29 : decode cX6_readFirst 29 = .ok (.aload_n 0, 1) := by decide +kernel
theorem dX6_readFirst_30 : decode cX6_readFirst 30 = .ok (.getfield 26, 3) := by decide +kernel
theorem dX6_readFirst_33 : decode cX6_readFirst 33 = .ok (.getfield 88, 3) := by decide +kernel
theorem dX6_readFirst_36 : decode cX6_readFirst 36 = .ok (.iload_n 2, 1) := by decide +kernel
theorem dX6_readFirst_37 : decode cX6_readFirst 37 = .ok (.iaload, 1) := by decide +kernel
theorem dX6_readFirst_38 : decode cX6_readFirst 38 = .ok (.ifCond .ne 18, 3) := by decide +kernel
theorem dX6_readFirst_41 : decode cX6_readFirst 41 = .ok (.aload_n 0, 1) := by decide +kernel
theorem dX6_readFirst_42 : decode cX6_readFirst 42 = .ok (.getfield 26, 3) := by decide +kernel
theorem dX6_readFirst_45 : decode cX6_readFirst 45 = .ok (.getfield 94, 3) := by decide +kernel
theorem dX6_readFirst_48 : decode cX6_readFirst 48 = .ok (.iload_n 2, 1) := by decide +kernel
theorem dX6_readFirst_49 : decode cX6_readFirst 49 = .ok (.iaload, 1) := by decide +kernel
theorem dX6_readFirst_50 : decode cX6_readFirst 50 = .ok (.sipush 255, 3) := by decide +kernel
theorem dX6_readFirst_53 : decode cX6_readFirst 53 = .ok (.if_icmp .eq 8, 3) := by decide +kernel
theorem dX6_readFirst_56 : decode cX6_readFirst 56 = .ok (.aload_n 0, 1) := by decide +kernel
theorem dX6_readFirst_57 : decode cX6_readFirst 57 = .ok (.iload_n 1, 1) := by decide +kernel
theorem dX6_readFirst_58 : decode cX6_readFirst 58 = .ok (.putfield 31, 3) := by decide +kernel
theorem dX6_readFirst_61 : decode cX6_readFirst 61 = .ok (.aload_n 0, 1) := by decide +kernel
theorem dX6_readFirst_62 : decode cX6_readFirst 62 = .ok (.getfield 26, 3) := by decide +kernel
theorem dX6_readFirst_65 : decode cX6_readFirst 65 = .ok (.iload_n 2, 1) := by decide +kernel
theorem dX6_readFirst_66 : decode cX6_readFirst 66 = .ok (.putfield 141, 3) := by decide +kernel
theorem dX6_readFirst_69 : decode cX6_readFirst 69 = .ok (.return_, 1) := by decide +kernel
def wp_X6_readFirst : List Cond := .code yX6_readFirst cX6_readFirst 3 none :: ((([.fieldLink RX6 26 "SteadyMachine$Reader" "methods" "LSteadyMachine$Methods;", .fieldLink RX6 141 "SteadyMachine$Methods" "first" "I", .fieldLink RX6 31 "SteadyMachine$Reader" "wrong" "I", .fieldLink RX6 27 "SteadyMachine$Reader" "at" "I", .fieldLink RX6 51 "SteadyMachine$Methods" "many" "I", .fieldLink RX6 88 "SteadyMachine$Methods" "params" "[I", .fieldLink RX6 94 "SteadyMachine$Methods" "gives" "[I"] ++ (wsV RX6 34 RX6 yX6_number wp_X6_number)) ++ wsX40) ++ wsX60)
theorem wq_X6_readFirst : wp_X6_readFirst.all goodWord = true := wa_c rfl (wa_a (wa_a (wa_a (by decide +kernel) (wa_V wq_X6_number)) uq_X4) uq_X6)
theorem wt_X6_readFirst : GoodIn lw_tbl wp_X6_readFirst := wm_c (List.mem_of_getElem? (i := 702) (by decide +kernel)) rfl (wm_a (wm_a (wm_a (goodIn_r _ [339, 225, 341, 340, 222, 231, 236] (by decide +kernel) (by decide +kernel)) (wm_a (goodIn_r _ [649, 651, 1, 140] (by decide +kernel) (by decide +kernel)) wt_X6_number)) ut_X4) ut_X6)
theorem wg_X6_readFirst_X6_number_34 : GoodIn wp_X6_readFirst (wsV RX6 34 RX6 yX6_number wp_X6_number) := goodIn_sub (fun w h => List.mem_cons_of_mem _ (List.mem_append_left _ (List.mem_append_left _ (List.mem_append_right _ h)))) (wa_V wq_X6_number)
theorem wi_X6_readFirst_X4 : ∀ w ∈ wsX40, w ∈ wp_X6_readFirst := fun w h => List.mem_cons_of_mem _ (List.mem_append_left _ (List.mem_append_right _ h))
theorem wi_X6_readFirst_X6 : ∀ w ∈ wsX60, w ∈ wp_X6_readFirst := fun w h => List.mem_cons_of_mem _ (List.mem_append_right _ h)
set_option maxHeartbeats 4000000 in
set_option maxRecDepth 100000 in
theorem c_X6_readFirst (l : Launch) (D : va_G) (sz t0 : Nat) (σ : sm_S) (α : sm_A) (K : sm_S → Prop) (hF : mp_X6_readFirst σ K) : Met l yX6_readFirst wp_X6_readFirst { frames := 2, cells := 0, slots := 0, locals := 45 } (sm_P sm_wX sm_tX 37 D sz t0 σ α [.ref (α.1 6)]) (va_Qv K (sm_B sm_wX D α) (sm_a α 37 sz)) 0 0 (sm_a α 37 sz) := by
  refine Met.ofW (cc := cX6_readFirst) (maxL := 3) (ret := none) (by decide) rfl ?_
  intro p e s m args below meth c s₁ B hml hv
  obtain ⟨rfl, hsz, hP, hK, hD0, hE⟩ := hv
  have hx := B.exec
  have hb := B.bytes
  have hr := B.returns
  have hts := atoms_spec (ws := wp_X6_readFirst) B.pre
  have hown : s.vm.findClass RX6 = some m.cls := findClass_of_methodNamed B.named
  have hlocks := B.notSynchronized
  subst hsz
  have hD : sm_D (sm_a α 37 s.heap.size) α 37 := hD0.own
  have hA : ∀ q : Nat, s.heap.size ≤ q → sm_a α 37 s.heap.size q := fun q h => Or.inr h
  generalize hAe : sm_a α 37 s.heap.size = A at hD hA hE ⊢
  have hS : va_S A s.heap s.heap [] := va_S.rf
  have in_X4 : ∀ w ∈ wsX40, w ∈ wp_X6_readFirst := wi_X6_readFirst_X4
  have in_X6 : ∀ w ∈ wsX60, w ∈ wp_X6_readFirst := wi_X6_readFirst_X6
  have k_0 := hts (.fieldLink RX6 26 "SteadyMachine$Reader" "methods" "LSteadyMachine$Methods;") (by decide +kernel)
  have k_1 := hts (.fieldLink RX6 141 "SteadyMachine$Methods" "first" "I") (by decide +kernel)
  have k_2 := hts (.fieldLink RX6 31 "SteadyMachine$Reader" "wrong" "I") (by decide +kernel)
  have k_3 := hts (.fieldLink RX6 27 "SteadyMachine$Reader" "at" "I") (by decide +kernel)
  have k_4 := hts (.fieldLink RX6 51 "SteadyMachine$Methods" "many" "I") (by decide +kernel)
  have k_5 := hts (.fieldLink RX6 88 "SteadyMachine$Methods" "params" "[I") (by decide +kernel)
  have k_6 := hts (.fieldLink RX6 94 "SteadyMachine$Methods" "gives" "[I") (by decide +kernel)
  have hl := lv_entry ([.ref (α.1 6)]) (n := 3) (Nat.le_of_ble_eq_true rfl)
  rw [lg_entry_eq]
  generalize (lg_sl ([.ref (α.1 6)]) ++ List.replicate (3 - (lg_sl ([.ref (α.1 6)])).length) Slot.unset).toArray = ls at hl ⊢
  have hl : lv_has ls 3 [(0, .ref (α.1 6))] := hl
  have B61 : ∀ (σ : sm_S) (x2 : Int32), mp_X6_readFirst_61 K σ x2 → sm_J p l e (headSpec wp_X6_readFirst { frames := 2, cells := 0, slots := 0, locals := 45 }).room s m ([.ref (α.1 6)] : List Value).toArray below meth c (MQ below (va_Qv K (sm_B sm_wX D α) A) ([.ref (α.1 6)] : List Value).toArray s 0 0 A) D A 3 (sm_wX σ α) 61 [(0, .ref (α.1 6)), (2, .int x2)] [] := by
    intro σ x2 hF H locs ls hP hS hl
    unfold mp_X6_readFirst_61 at hF
    refine lv_aload_n hx hb dX6_readFirst_61 rfl (lv_at hl 0 rfl) ?_
    refine va_get (D := D) (ci := 6) (v := .ref (α.1 4)) (C := RX6) (T := TX6) (N := 5) hx hb hts in_X6 hown hK hP 6 (sm_gX6 σ α) rfl 2 (by decide) k_0 (fun _ h9 => h9) rfl dX6_readFirst_62 ?_
    refine lv_iload_n hx hb dX6_readFirst_65 rfl (lv_at hl 1 rfl) ?_
    refine va_put (D := D) (ci := 4) (v := .int x2) (ty := .int) (C := RX4) (T := TX4) (N := 12) hx hb hts in_X4 tyX4 tyX4_ok nmX4 hown hK hP (hD.to (sm_wX_m _ _)) hS 4 (sm_gX4 σ α) rfl 1 (by decide) k_1 (fun _ h9 => h9) rfl (by decide +kernel) rfl rfl (Nat.le_of_ble_eq_true rfl) dX6_readFirst_66 (fun H locs hP _ hS => ?_)
    rw [sm_iX17] at hP
    obtain ⟨σ1, eσ1⟩ : ∃ x : sm_S, x = sm_i σ 17 x2 := ⟨_, rfl⟩
    replace hF := hF σ1 eσ1
    rw [← eσ1] at hP
    exact W.vret hx hb hr (fun t ht hW => ⟨⟨σ1, rfl, hF, (by unfold sm_B; rw [ht]; exact hP)⟩, hS.F ht⟩) hS.2.2 dX6_readFirst_69
  have B56 : ∀ (σ : sm_S) (x1 : Int32) (x2 : Int32), mp_X6_readFirst_56 K σ x1 x2 → sm_J p l e (headSpec wp_X6_readFirst { frames := 2, cells := 0, slots := 0, locals := 45 }).room s m ([.ref (α.1 6)] : List Value).toArray below meth c (MQ below (va_Qv K (sm_B sm_wX D α) A) ([.ref (α.1 6)] : List Value).toArray s 0 0 A) D A 3 (sm_wX σ α) 56 [(0, .ref (α.1 6)), (1, .int x1), (2, .int x2)] [] := by
    intro σ x1 x2 hF H locs ls hP hS hl
    unfold mp_X6_readFirst_56 at hF
    refine lv_aload_n hx hb dX6_readFirst_56 rfl (lv_at hl 0 rfl) ?_
    refine lv_iload_n hx hb dX6_readFirst_57 rfl (lv_at hl 1 rfl) ?_
    refine va_put (D := D) (ci := 6) (v := .int x1) (ty := .int) (C := RX6) (T := TX6) (N := 5) hx hb hts in_X6 tyX6 tyX6_ok nmX6 hown hK hP (hD.to (sm_wX_m _ _)) hS 6 (sm_gX6 σ α) rfl 4 (by decide) k_2 (fun _ h9 => h9) rfl (by decide +kernel) rfl rfl (Nat.le_of_ble_eq_true rfl) dX6_readFirst_58 (fun H locs hP _ hS => ?_)
    rw [sm_iX21] at hP
    obtain ⟨σ2, eσ2⟩ : ∃ x : sm_S, x = sm_i σ 21 x1 := ⟨_, rfl⟩
    replace hF := hF σ2 eσ2
    rw [← eσ2] at hP
    exact B61 σ2 x2 hF H locs ls hP hS (lv_sub hl [0, 2] rfl)
  unfold mp_X6_readFirst at hF
  revert hP hS
  generalize hLo : ([] : List Loc) = locs
  suffices h9 : ∀ (H : Heap) (locs : List Loc), va_P D vwCl (sm_wX σ α) H → va_S A s.heap H locs → W p l e (headSpec wp_X6_readFirst { frames := 2, cells := 0, slots := 0, locals := 45 }).room s m ([.ref (α.1 6)] : List Value).toArray below meth c H locs 0 0 (MQ below (va_Qv K (sm_B sm_wX D α) A) ([.ref (α.1 6)] : List Value).toArray s 0 0 A) (F0 m 0 ls []) from fun hP hS => h9 s.heap locs hP hS
  intro H locs hP hS
  refine lv_aload_n hx hb dX6_readFirst_0 rfl (lv_at hl 0 rfl) ?_
  refine va_get (D := D) (ci := 6) (v := .int (σ.1 20)) (C := RX6) (T := TX6) (N := 5) hx hb hts in_X6 hown hK hP 6 (sm_gX6 σ α) rfl 3 (by decide) k_3 (fun _ h9 => h9) rfl dX6_readFirst_1 ?_
  refine lv_topi (fun v3 ev3 => ?_)
  replace hF := hF v3 ev3
  refine lv_istore_n (lv' := [(1, .int v3), (0, .ref (α.1 6))]) hx hb dX6_readFirst_4 rfl hl (by decide) rfl (fun ls hl => ?_)
  refine lv_aload_n hx hb dX6_readFirst_5 rfl (lv_at hl 1 rfl) ?_
  refine lv_iconst (v := 0) hx hb dX6_readFirst_6 (by decide) ?_
  refine lv_aload_n hx hb dX6_readFirst_7 rfl (lv_at hl 1 rfl) ?_
  refine va_get (D := D) (ci := 6) (v := .ref (α.1 4)) (C := RX6) (T := TX6) (N := 5) hx hb hts in_X6 hown hK hP 6 (sm_gX6 σ α) rfl 2 (by decide) k_0 (fun _ h9 => h9) rfl dX6_readFirst_8 ?_
  refine va_get (D := D) (ci := 4) (v := .int (σ.1 16)) (C := RX4) (T := TX4) (N := 12) hx hb hts in_X4 hown hK hP 4 (sm_gX4 σ α) rfl 0 (by decide) k_4 (fun _ h9 => h9) rfl dX6_readFirst_11 ?_
  refine lv_iconst (v := 1) hx hb dX6_readFirst_14 (by decide) ?_
  refine lv_isub hx hb dX6_readFirst_15 ?_
  refine lv_iconst (v := -1) hx hb dX6_readFirst_16 (by decide) ?_
  refine sm_vi (As := [.int 0, .int ((σ.1 16) - 1), .int (-1)]) (rest := []) hP hK hD hE hS hA ⟨hx, hb, hml, hown, hts⟩ hl.1 (c_X6_number l D H.size t0 σ α 0 ((σ.1 16) - 1) (-1) _ hF) (cwV 3 hts wg_X6_readFirst_X6_number_34 rfl rfl rfl (by decide +kernel) ⟨Nat.le_of_ble_eq_true rfl, Nat.le_of_ble_eq_true rfl⟩) (va_recv hK hP (ci := 6) (q0 := 6) rfl (sm_gX6 σ α)) rfl rfl (Nat.le_of_ble_eq_true rfl) dX6_readFirst_17 ⟨Nat.zero_le _, Nat.zero_le _⟩ (fun r5 σ4 H locs hF hP hS => ?_)
  refine lv_istore_n (lv' := [(2, .int r5), (1, .int v3), (0, .ref (α.1 6))]) hx hb dX6_readFirst_20 rfl hl (by decide) rfl (fun ls hl => ?_)
  refine lv_aload_n hx hb dX6_readFirst_21 rfl (lv_at hl 2 rfl) ?_
  refine va_get (D := D) (ci := 6) (v := .int (σ4.1 21)) (C := RX6) (T := TX6) (N := 5) hx hb hts in_X6 hown hK hP 6 (sm_gX6 σ4 α) rfl 4 (by decide) k_2 (fun _ h9 => h9) rfl dX6_readFirst_22 ?_
  refine lv_iconst (v := -1) hx hb dX6_readFirst_25 (by decide) ?_
  refine lv_icmp_ne (tgt := 61) hx hb dX6_readFirst_26 (by decide) (fun h6 => ?_) (fun h6 => ?_)
  · replace hF := hF.1 h6
    exact B61 σ4 r5 hF H locs ls hP hS (lv_sub hl [2, 0] rfl)
  · replace hF := hF.2 h6
    refine lv_aload_n hx hb dX6_readFirst_29 rfl (lv_at hl 2 rfl) ?_
    refine va_get (D := D) (ci := 6) (v := .ref (α.1 4)) (C := RX6) (T := TX6) (N := 5) hx hb hts in_X6 hown hK hP 6 (sm_gX6 σ4 α) rfl 2 (by decide) k_0 (fun _ h9 => h9) rfl dX6_readFirst_30 ?_
    refine va_get (D := D) (ci := 4) (v := .ref (α.1 21)) (C := RX4) (T := TX4) (N := 12) hx hb hts in_X4 hown hK hP 4 (sm_gX4 σ4 α) rfl 3 (by decide) k_5 (fun _ h9 => h9) rfl dX6_readFirst_33 ?_
    refine lv_iload_n hx hb dX6_readFirst_36 rfl (lv_at hl 0 rfl) ?_
    obtain ⟨h7, hF⟩ := hF
    refine va_iald (n := (σ4.2.2.1 21)) (f := (σ4.2.2.2.1 21)) hx hb hK hP 21 10 (sm_aX21 σ4 α) (sm_yX21 α) h7 dX6_readFirst_37 ?_
    refine lv_if_ne (tgt := 56) hx hb dX6_readFirst_38 (by decide) (fun h8 => ?_) (fun h8 => ?_)
    · replace hF := hF.1 h8
      exact B56 σ4 v3 r5 hF H locs ls hP hS (lv_sub hl [2, 1, 0] rfl)
    · replace hF := hF.2 h8
      refine lv_aload_n hx hb dX6_readFirst_41 rfl (lv_at hl 2 rfl) ?_
      refine va_get (D := D) (ci := 6) (v := .ref (α.1 4)) (C := RX6) (T := TX6) (N := 5) hx hb hts in_X6 hown hK hP 6 (sm_gX6 σ4 α) rfl 2 (by decide) k_0 (fun _ h9 => h9) rfl dX6_readFirst_42 ?_
      refine va_get (D := D) (ci := 4) (v := .ref (α.1 23)) (C := RX4) (T := TX4) (N := 12) hx hb hts in_X4 hown hK hP 4 (sm_gX4 σ4 α) rfl 5 (by decide) k_6 (fun _ h9 => h9) rfl dX6_readFirst_45 ?_
      refine lv_iload_n hx hb dX6_readFirst_48 rfl (lv_at hl 0 rfl) ?_
      obtain ⟨h9, hF⟩ := hF
      refine va_iald (n := (σ4.2.2.1 23)) (f := (σ4.2.2.2.1 23)) hx hb hK hP 23 12 (sm_aX23 σ4 α) (sm_yX23 α) h9 dX6_readFirst_49 ?_
      refine lv_sipush (v := 255) hx hb dX6_readFirst_50 (by decide) ?_
      refine lv_icmp_eq (tgt := 61) hx hb dX6_readFirst_53 (by decide) (fun h10 => ?_) (fun h10 => ?_)
      · replace hF := hF.1 h10
        exact B61 σ4 r5 hF H locs ls hP hS (lv_sub hl [2, 0] rfl)
      · replace hF := hF.2 h10
        exact B56 σ4 v3 r5 hF H locs ls hP hS (lv_sub hl [2, 1, 0] rfl)
theorem dX6_codeLength_0 : decode cX6_codeLength 0 = .ok (.aload_n 0, 1) := by decide +kernel
theorem dX6_codeLength_1 : decode cX6_codeLength 1 = .ok (.iconst 0, 1) := by decide +kernel
theorem dX6_codeLength_2 : decode cX6_codeLength 2 = .ok (.iconst 3, 1) := by decide +kernel
theorem dX6_codeLength_3 : decode cX6_codeLength 3 = .ok (.iconst (-1), 1) := by decide +kernel
theorem dX6_codeLength_4 : decode cX6_codeLength 4 = .ok (.invokevirtual 34, 3) := by decide +kernel
theorem dX6_codeLength_7 : decode cX6_codeLength 7 = .ok (.istore_n 1, 1) := by decide +kernel
theorem dX6_codeLength_8 : decode cX6_codeLength 8 = .ok (.iload_n 1, 1) := by decide +kernel
theorem dX6_codeLength_9 : decode cX6_codeLength 9 = .ok (.ifCond .ne 7, 3) := by decide +kernel
theorem dX6_codeLength_12 : decode cX6_codeLength 12 = .ok (.iconst 1, 1) := by decide +kernel
theorem dX6_codeLength_13 : decode cX6_codeLength 13 = .ok (.goto 4, 3) := by decide +kernel
theorem dX6_codeLength_16 : decode cX6_codeLength 16 = .ok (.iconst 0, 1) := by decide +kernel
theorem dX6_codeLength_17 : decode cX6_codeLength 17 = .ok (.istore_n 2, 1) := by decide +kernel
theorem dX6_codeLength_18 : decode cX6_codeLength 18 = .ok (.iload_n 1, 1) := by decide +kernel
theorem dX6_codeLength_19 : decode cX6_codeLength 19 = .ok (.iconst 3, 1) := by decide +kernel
theorem dX6_codeLength_20 : decode cX6_codeLength 20 = .ok (.if_icmp .ne 9, 3) := by decide +kernel
theorem dX6_codeLength_23 : decode cX6_codeLength 23 = .ok (.sipush 232, 3) := by decide +kernel
theorem dX6_codeLength_26 : decode cX6_codeLength 26 = .ok (.goto 6, 3) := by decide +kernel
theorem dX6_codeLength_29 : decode cX6_codeLength 29 = .ok (.sipush 255, 3) := by decide +kernel
theorem dX6_codeLength_32 : decode cX6_codeLength 32 = .ok (.istore_n 3, 1) := by decide +kernel
theorem dX6_codeLength_33 : decode cX6_codeLength 33 = .ok (.iload_n 1, 1) := by decide +kernel
theorem dX6_codeLength_34 : decode cX6_codeLength 34 = .ok (.bipush 8, 2) := by decide +kernel
theorem dX6_codeLength_36 : decode cX6_codeLength 36 = .ok (.ishl, 1) := by decide +kernel
theorem dX6_codeLength_37 : decode cX6_codeLength 37 = .ok (.aload_n 0, 1) := by decide +kernel
theorem dX6_codeLength_38 : decode cX6_codeLength 38 = .ok (.iload_n 2, 1) := by decide +kernel
theorem dX6_codeLength_39 : decode cX6_codeLength 39 = .ok (.iload_n 3, 1) := by decide +kernel
theorem dX6_codeLength_40 : decode cX6_codeLength 40 = .ok (.iconst (-1), 1) := by decide +kernel
theorem dX6_codeLength_41 : decode cX6_codeLength 41 = .ok (.invokevirtual 34, 3) := by decide +kernel
theorem dX6_codeLength_44 : decode cX6_codeLength 44 = .ok (.ior, 1) := by decide +kernel
theorem dX6_codeLength_45 : decode cX6_codeLength 45 = .ok (.ireturn, 1) := by decide +kernel
def wp_X6_codeLength : List Cond := .code yX6_codeLength cX6_codeLength 4 (some .int) :: ([] ++ (wsV RX6 34 RX6 yX6_number wp_X6_number))
theorem wq_X6_codeLength : wp_X6_codeLength.all goodWord = true := wa_c rfl (wa_a (by decide +kernel) (wa_V wq_X6_number))
theorem wt_X6_codeLength : GoodIn lw_tbl wp_X6_codeLength := wm_c (List.mem_of_getElem? (i := 680) (by decide +kernel)) rfl (wm_a (goodIn_r _ [] (by decide +kernel) (by decide +kernel)) (wm_a (goodIn_r _ [649, 651, 1, 140] (by decide +kernel) (by decide +kernel)) wt_X6_number))
theorem wg_X6_codeLength_X6_number_34 : GoodIn wp_X6_codeLength (wsV RX6 34 RX6 yX6_number wp_X6_number) := goodIn_sub (fun w h => List.mem_cons_of_mem _ (List.mem_append_right _ h)) (wa_V wq_X6_number)
set_option maxHeartbeats 4000000 in
set_option maxRecDepth 100000 in
theorem c_X6_codeLength (l : Launch) (D : va_G) (sz t0 : Nat) (σ : sm_S) (α : sm_A) (K : Int32 → sm_S → Prop) (hF : mp_X6_codeLength σ K) : Met l yX6_codeLength wp_X6_codeLength { frames := 2, cells := 0, slots := 0, locals := 45 } (sm_P sm_wX sm_tX 37 D sz t0 σ α [.ref (α.1 6)]) (va_Qi K (sm_B sm_wX D α) (sm_a α 37 sz)) 0 0 (sm_a α 37 sz) := by
  refine Met.ofW (cc := cX6_codeLength) (maxL := 4) (ret := (some .int)) (by decide) rfl ?_
  intro p e s m args below meth c s₁ B hml hv
  obtain ⟨rfl, hsz, hP, hK, hD0, hE⟩ := hv
  have hx := B.exec
  have hb := B.bytes
  have hr := B.returns
  have hts := atoms_spec (ws := wp_X6_codeLength) B.pre
  have hown : s.vm.findClass RX6 = some m.cls := findClass_of_methodNamed B.named
  have hlocks := B.notSynchronized
  subst hsz
  have hD : sm_D (sm_a α 37 s.heap.size) α 37 := hD0.own
  have hA : ∀ q : Nat, s.heap.size ≤ q → sm_a α 37 s.heap.size q := fun q h => Or.inr h
  generalize hAe : sm_a α 37 s.heap.size = A at hD hA hE ⊢
  have hS : va_S A s.heap s.heap [] := va_S.rf
  have hl := lv_entry ([.ref (α.1 6)]) (n := 4) (Nat.le_of_ble_eq_true rfl)
  rw [lg_entry_eq]
  generalize (lg_sl ([.ref (α.1 6)]) ++ List.replicate (4 - (lg_sl ([.ref (α.1 6)])).length) Slot.unset).toArray = ls at hl ⊢
  have hl : lv_has ls 4 [(0, .ref (α.1 6))] := hl
  have B32 : ∀ (σ : sm_S) (x1 : Int32) (x2 : Int32) (y0 : Int32), mp_X6_codeLength_32 K σ x1 x2 y0 → sm_J p l e (headSpec wp_X6_codeLength { frames := 2, cells := 0, slots := 0, locals := 45 }).room s m ([.ref (α.1 6)] : List Value).toArray below meth c (MQ below (va_Qi K (sm_B sm_wX D α) A) ([.ref (α.1 6)] : List Value).toArray s 0 0 A) D A 4 (sm_wX σ α) 32 [(0, .ref (α.1 6)), (1, .int x1), (2, .int x2)] [.int y0] := by
    intro σ x1 x2 y0 hF H locs ls hP hS hl
    unfold mp_X6_codeLength_32 at hF
    refine lv_istore_n (lv' := [(3, .int y0), (0, .ref (α.1 6)), (1, .int x1), (2, .int x2)]) hx hb dX6_codeLength_32 rfl hl (by decide) rfl (fun ls hl => ?_)
    refine lv_iload_n hx hb dX6_codeLength_33 rfl (lv_at hl 2 rfl) ?_
    refine lv_bipush (v := 8) hx hb dX6_codeLength_34 (by decide) ?_
    refine lv_ishl hx hb dX6_codeLength_36 ?_
    refine lv_aload_n hx hb dX6_codeLength_37 rfl (lv_at hl 1 rfl) ?_
    refine lv_iload_n hx hb dX6_codeLength_38 rfl (lv_at hl 3 rfl) ?_
    refine lv_iload_n hx hb dX6_codeLength_39 rfl (lv_at hl 0 rfl) ?_
    refine lv_iconst (v := -1) hx hb dX6_codeLength_40 (by decide) ?_
    refine sm_vi (As := [.int x2, .int y0, .int (-1)]) (rest := [.int (x1 <<< (8 &&& 31))]) hP hK hD hE hS hA ⟨hx, hb, hml, hown, hts⟩ hl.1 (c_X6_number l D H.size t0 σ α x2 y0 (-1) _ hF) (cwV 3 hts wg_X6_codeLength_X6_number_34 rfl rfl rfl (by decide +kernel) ⟨Nat.le_of_ble_eq_true rfl, Nat.le_of_ble_eq_true rfl⟩) (va_recv hK hP (ci := 6) (q0 := 6) rfl (sm_gX6 σ α)) rfl rfl (Nat.le_of_ble_eq_true rfl) dX6_codeLength_41 ⟨Nat.zero_le _, Nat.zero_le _⟩ (fun r2 σ1 H locs hF hP hS => ?_)
    refine lv_ior hx hb dX6_codeLength_44 ?_
    exact W.iret (v := ((x1 <<< (8 &&& 31)) ||| r2)) hx hb hr (fun t ht hW => ⟨⟨((x1 <<< (8 &&& 31)) ||| r2), σ1, rfl, hF, (by unfold sm_B; rw [ht]; exact hP)⟩, hS.F ht⟩) hS.2.2 dX6_codeLength_45
  have B17 : ∀ (σ : sm_S) (x1 : Int32) (y0 : Int32), mp_X6_codeLength_17 K σ x1 y0 → sm_J p l e (headSpec wp_X6_codeLength { frames := 2, cells := 0, slots := 0, locals := 45 }).room s m ([.ref (α.1 6)] : List Value).toArray below meth c (MQ below (va_Qi K (sm_B sm_wX D α) A) ([.ref (α.1 6)] : List Value).toArray s 0 0 A) D A 4 (sm_wX σ α) 17 [(0, .ref (α.1 6)), (1, .int x1)] [.int y0] := by
    intro σ x1 y0 hF H locs ls hP hS hl
    unfold mp_X6_codeLength_17 at hF
    refine lv_istore_n (lv' := [(2, .int y0), (0, .ref (α.1 6)), (1, .int x1)]) hx hb dX6_codeLength_17 rfl hl (by decide) rfl (fun ls hl => ?_)
    refine lv_iload_n hx hb dX6_codeLength_18 rfl (lv_at hl 2 rfl) ?_
    refine lv_iconst (v := 3) hx hb dX6_codeLength_19 (by decide) ?_
    refine lv_icmp_ne (tgt := 29) hx hb dX6_codeLength_20 (by decide) (fun h3 => ?_) (fun h3 => ?_)
    · replace hF := hF.1 h3
      refine lv_sipush (v := 255) hx hb dX6_codeLength_29 (by decide) ?_
      exact B32 σ x1 y0 255 hF H locs ls hP hS (lv_sub hl [1, 2, 0] rfl)
    · replace hF := hF.2 h3
      refine lv_sipush (v := 232) hx hb dX6_codeLength_23 (by decide) ?_
      refine lv_goto (tgt := 32) hx hb dX6_codeLength_26 (by decide) ?_
      exact B32 σ x1 y0 232 hF H locs ls hP hS (lv_sub hl [1, 2, 0] rfl)
  unfold mp_X6_codeLength at hF
  revert hP hS
  generalize hLo : ([] : List Loc) = locs
  suffices h9 : ∀ (H : Heap) (locs : List Loc), va_P D vwCl (sm_wX σ α) H → va_S A s.heap H locs → W p l e (headSpec wp_X6_codeLength { frames := 2, cells := 0, slots := 0, locals := 45 }).room s m ([.ref (α.1 6)] : List Value).toArray below meth c H locs 0 0 (MQ below (va_Qi K (sm_B sm_wX D α) A) ([.ref (α.1 6)] : List Value).toArray s 0 0 A) (F0 m 0 ls []) from fun hP hS => h9 s.heap locs hP hS
  intro H locs hP hS
  refine lv_aload_n hx hb dX6_codeLength_0 rfl (lv_at hl 0 rfl) ?_
  refine lv_iconst (v := 0) hx hb dX6_codeLength_1 (by decide) ?_
  refine lv_iconst (v := 3) hx hb dX6_codeLength_2 (by decide) ?_
  refine lv_iconst (v := -1) hx hb dX6_codeLength_3 (by decide) ?_
  refine sm_vi (As := [.int 0, .int 3, .int (-1)]) (rest := []) hP hK hD hE hS hA ⟨hx, hb, hml, hown, hts⟩ hl.1 (c_X6_number l D H.size t0 σ α 0 3 (-1) _ hF) (cwV 3 hts wg_X6_codeLength_X6_number_34 rfl rfl rfl (by decide +kernel) ⟨Nat.le_of_ble_eq_true rfl, Nat.le_of_ble_eq_true rfl⟩) (va_recv hK hP (ci := 6) (q0 := 6) rfl (sm_gX6 σ α)) rfl rfl (Nat.le_of_ble_eq_true rfl) dX6_codeLength_4 ⟨Nat.zero_le _, Nat.zero_le _⟩ (fun r5 σ4 H locs hF hP hS => ?_)
  refine lv_istore_n (lv' := [(1, .int r5), (0, .ref (α.1 6))]) hx hb dX6_codeLength_7 rfl hl (by decide) rfl (fun ls hl => ?_)
  refine lv_iload_n hx hb dX6_codeLength_8 rfl (lv_at hl 0 rfl) ?_
  refine lv_if_ne (tgt := 16) hx hb dX6_codeLength_9 (by decide) (fun h6 => ?_) (fun h6 => ?_)
  · replace hF := hF.1 h6
    refine lv_iconst (v := 0) hx hb dX6_codeLength_16 (by decide) ?_
    exact B17 σ4 r5 0 hF H locs ls hP hS (lv_sub hl [1, 0] rfl)
  · replace hF := hF.2 h6
    refine lv_iconst (v := 1) hx hb dX6_codeLength_12 (by decide) ?_
    refine lv_goto (tgt := 17) hx hb dX6_codeLength_13 (by decide) ?_
    exact B17 σ4 r5 1 hF H locs ls hP hS (lv_sub hl [1, 0] rfl)
theorem dX6_readSlot_0 : decode cX6_readSlot 0 = .ok (.aload_n 0, 1) := by decide +kernel
theorem dX6_readSlot_1 : decode cX6_readSlot 1 = .ok (.getfield 27, 3) := by decide +kernel
theorem dX6_readSlot_4 : decode cX6_readSlot 4 = .ok (.istore_n 2, 1) := by decide +kernel
theorem dX6_readSlot_5 : decode cX6_readSlot 5 = .ok (.aload_n 0, 1) := by decide +kernel
theorem dX6_readSlot_6 : decode cX6_readSlot 6 = .ok (.iconst 0, 1) := by decide +kernel
theorem dX6_readSlot_7 : decode cX6_readSlot 7 = .ok (.bipush 15, 2) := by decide +kernel
theorem dX6_readSlot_9 : decode cX6_readSlot 9 = .ok (.iconst (-1), 1) := by decide +kernel
theorem dX6_readSlot_10 : decode cX6_readSlot 10 = .ok (.invokevirtual 34, 3) := by decide +kernel
theorem dX6_readSlot_13 : decode cX6_readSlot 13 = .ok (.istore_n 3, 1) := by decide +kernel
theorem dX6_readSlot_14 : decode cX6_readSlot 14 = .ok (.aload_n 0, 1) := by decide +kernel
theorem dX6_readSlot_15 : decode cX6_readSlot 15 = .ok (.getfield 31, 3) := by decide +kernel
theorem dX6_readSlot_18 : decode cX6_readSlot 18 = .ok (.iconst (-1), 1) := by decide +kernel
theorem dX6_readSlot_19 : decode cX6_readSlot 19 = .ok (.if_icmp .ne 26, 3) := by decide +kernel
theorem dX6_readSlot_22 : decode cX6_readSlot 22 = .ok (.aload_n 0, 1) := by decide +kernel
theorem dX6_readSlot_23 : decode cX6_readSlot 23 = .ok (.getfield 21, 3) := by decide +kernel
theorem dX6_readSlot_26 : decode cX6_readSlot 26 = .ok (.getfield 82, 3) := by decide +kernel
theorem dX6_readSlot_29 : decode cX6_readSlot 29 = .ok (.iload_n 1, 1) := by decide +kernel
theorem dX6_readSlot_30 : decode cX6_readSlot 30 = .ok (.bipush 16, 2) := by decide +kernel
theorem dX6_readSlot_32 : decode cX6_readSlot 32 = .ok (.imul, 1) := by decide +kernel
theorem dX6_readSlot_33 : decode cX6_readSlot 33 = .ok (.iload_n 3, 1) := by decide +kernel
theorem dX6_readSlot_34 : decode cX6_readSlot 34 = .ok (.iadd, 1) := by decide +kernel
theorem dX6_readSlot_35 : decode cX6_readSlot 35 = .ok (.iaload, 1) := by decide +kernel
theorem dX6_readSlot_36 : decode cX6_readSlot 36 = .ok (.iconst (-1), 1) := by decide +kernel
theorem dX6_readSlot_37 : decode cX6_readSlot 37 = .ok (.if_icmp .ne 8, 3) := by decide +kernel
theorem dX6_readSlot_40 : decode cX6_readSlot 40 = .ok (.aload_n 0, 1) := by decide +kernel
theorem dX6_readSlot_41 : decode cX6_readSlot 41 = .ok (.iload_n 2, 1) := by decide +kernel
theorem dX6_readSlot_42 : decode cX6_readSlot 42 = .ok (.putfield 31, 3) := by decide +kernel
theorem dX6_readSlot_45 : decode cX6_readSlot 45 = .ok (.return_, 1) := by decide +kernel
def wp_X6_readSlot : List Cond := .code yX6_readSlot cX6_readSlot 4 none :: ((([.fieldLink RX6 27 "SteadyMachine$Reader" "at" "I", .fieldLink RX6 31 "SteadyMachine$Reader" "wrong" "I", .fieldLink RX6 21 "SteadyMachine$Reader" "classes" "LSteadyMachine$Classes;", .fieldLink RX6 82 "SteadyMachine$Classes" "slot" "[I"] ++ (wsV RX6 34 RX6 yX6_number wp_X6_number)) ++ wsX00) ++ wsX60)
theorem wq_X6_readSlot : wp_X6_readSlot.all goodWord = true := wa_c rfl (wa_a (wa_a (wa_a (by decide +kernel) (wa_V wq_X6_number)) uq_X0) uq_X6)
theorem wt_X6_readSlot : GoodIn lw_tbl wp_X6_readSlot := wm_c (List.mem_of_getElem? (i := 698) (by decide +kernel)) rfl (wm_a (wm_a (wm_a (goodIn_r _ [340, 341, 338, 188] (by decide +kernel) (by decide +kernel)) (wm_a (goodIn_r _ [649, 651, 1, 140] (by decide +kernel) (by decide +kernel)) wt_X6_number)) ut_X0) ut_X6)
theorem wg_X6_readSlot_X6_number_34 : GoodIn wp_X6_readSlot (wsV RX6 34 RX6 yX6_number wp_X6_number) := goodIn_sub (fun w h => List.mem_cons_of_mem _ (List.mem_append_left _ (List.mem_append_left _ (List.mem_append_right _ h)))) (wa_V wq_X6_number)
theorem wi_X6_readSlot_X0 : ∀ w ∈ wsX00, w ∈ wp_X6_readSlot := fun w h => List.mem_cons_of_mem _ (List.mem_append_left _ (List.mem_append_right _ h))
theorem wi_X6_readSlot_X6 : ∀ w ∈ wsX60, w ∈ wp_X6_readSlot := fun w h => List.mem_cons_of_mem _ (List.mem_append_right _ h)
set_option maxHeartbeats 4000000 in
set_option maxRecDepth 100000 in
theorem c_X6_readSlot (l : Launch) (D : va_G) (sz t0 : Nat) (σ : sm_S) (α : sm_A) (p1 : Int32) (K : sm_S → Prop) (hF : mp_X6_readSlot σ p1 K) : Met l yX6_readSlot wp_X6_readSlot { frames := 2, cells := 0, slots := 0, locals := 45 } (sm_P sm_wX sm_tX 37 D sz t0 σ α [.ref (α.1 6), .int p1]) (va_Qv K (sm_B sm_wX D α) (sm_a α 37 sz)) 0 0 (sm_a α 37 sz) := by
  refine Met.ofW (cc := cX6_readSlot) (maxL := 4) (ret := none) (by decide) rfl ?_
  intro p e s m args below meth c s₁ B hml hv
  obtain ⟨rfl, hsz, hP, hK, hD0, hE⟩ := hv
  have hx := B.exec
  have hb := B.bytes
  have hr := B.returns
  have hts := atoms_spec (ws := wp_X6_readSlot) B.pre
  have hown : s.vm.findClass RX6 = some m.cls := findClass_of_methodNamed B.named
  have hlocks := B.notSynchronized
  subst hsz
  have hD : sm_D (sm_a α 37 s.heap.size) α 37 := hD0.own
  have hA : ∀ q : Nat, s.heap.size ≤ q → sm_a α 37 s.heap.size q := fun q h => Or.inr h
  generalize hAe : sm_a α 37 s.heap.size = A at hD hA hE ⊢
  have hS : va_S A s.heap s.heap [] := va_S.rf
  have in_X0 : ∀ w ∈ wsX00, w ∈ wp_X6_readSlot := wi_X6_readSlot_X0
  have in_X6 : ∀ w ∈ wsX60, w ∈ wp_X6_readSlot := wi_X6_readSlot_X6
  have k_0 := hts (.fieldLink RX6 27 "SteadyMachine$Reader" "at" "I") (by decide +kernel)
  have k_1 := hts (.fieldLink RX6 31 "SteadyMachine$Reader" "wrong" "I") (by decide +kernel)
  have k_2 := hts (.fieldLink RX6 21 "SteadyMachine$Reader" "classes" "LSteadyMachine$Classes;") (by decide +kernel)
  have k_3 := hts (.fieldLink RX6 82 "SteadyMachine$Classes" "slot" "[I") (by decide +kernel)
  have hl := lv_entry ([.ref (α.1 6), .int p1]) (n := 4) (Nat.le_of_ble_eq_true rfl)
  rw [lg_entry_eq]
  generalize (lg_sl ([.ref (α.1 6), .int p1]) ++ List.replicate (4 - (lg_sl ([.ref (α.1 6), .int p1])).length) Slot.unset).toArray = ls at hl ⊢
  have hl : lv_has ls 4 [(0, .ref (α.1 6)), (1, .int p1)] := hl
  have B45 : ∀ (σ : sm_S), mp_X6_readSlot_45 K σ → sm_J p l e (headSpec wp_X6_readSlot { frames := 2, cells := 0, slots := 0, locals := 45 }).room s m ([.ref (α.1 6), .int p1] : List Value).toArray below meth c (MQ below (va_Qv K (sm_B sm_wX D α) A) ([.ref (α.1 6), .int p1] : List Value).toArray s 0 0 A) D A 4 (sm_wX σ α) 45 [] [] := by
    intro σ hF H locs ls hP hS hl
    unfold mp_X6_readSlot_45 at hF
    exact W.vret hx hb hr (fun t ht hW => ⟨⟨σ, rfl, hF, (by unfold sm_B; rw [ht]; exact hP)⟩, hS.F ht⟩) hS.2.2 dX6_readSlot_45
  unfold mp_X6_readSlot at hF
  revert hP hS
  generalize hLo : ([] : List Loc) = locs
  suffices h9 : ∀ (H : Heap) (locs : List Loc), va_P D vwCl (sm_wX σ α) H → va_S A s.heap H locs → W p l e (headSpec wp_X6_readSlot { frames := 2, cells := 0, slots := 0, locals := 45 }).room s m ([.ref (α.1 6), .int p1] : List Value).toArray below meth c H locs 0 0 (MQ below (va_Qv K (sm_B sm_wX D α) A) ([.ref (α.1 6), .int p1] : List Value).toArray s 0 0 A) (F0 m 0 ls []) from fun hP hS => h9 s.heap locs hP hS
  intro H locs hP hS
  refine lv_aload_n hx hb dX6_readSlot_0 rfl (lv_at hl 0 rfl) ?_
  refine va_get (D := D) (ci := 6) (v := .int (σ.1 20)) (C := RX6) (T := TX6) (N := 5) hx hb hts in_X6 hown hK hP 6 (sm_gX6 σ α) rfl 3 (by decide) k_0 (fun _ h9 => h9) rfl dX6_readSlot_1 ?_
  refine lv_topi (fun v1 ev1 => ?_)
  replace hF := hF v1 ev1
  refine lv_istore_n (lv' := [(2, .int v1), (0, .ref (α.1 6)), (1, .int p1)]) hx hb dX6_readSlot_4 rfl hl (by decide) rfl (fun ls hl => ?_)
  refine lv_aload_n hx hb dX6_readSlot_5 rfl (lv_at hl 1 rfl) ?_
  refine lv_iconst (v := 0) hx hb dX6_readSlot_6 (by decide) ?_
  refine lv_bipush (v := 15) hx hb dX6_readSlot_7 (by decide) ?_
  refine lv_iconst (v := -1) hx hb dX6_readSlot_9 (by decide) ?_
  refine sm_vi (As := [.int 0, .int 15, .int (-1)]) (rest := []) hP hK hD hE hS hA ⟨hx, hb, hml, hown, hts⟩ hl.1 (c_X6_number l D H.size t0 σ α 0 15 (-1) _ hF) (cwV 3 hts wg_X6_readSlot_X6_number_34 rfl rfl rfl (by decide +kernel) ⟨Nat.le_of_ble_eq_true rfl, Nat.le_of_ble_eq_true rfl⟩) (va_recv hK hP (ci := 6) (q0 := 6) rfl (sm_gX6 σ α)) rfl rfl (Nat.le_of_ble_eq_true rfl) dX6_readSlot_10 ⟨Nat.zero_le _, Nat.zero_le _⟩ (fun r3 σ2 H locs hF hP hS => ?_)
  refine lv_istore_n (lv' := [(3, .int r3), (2, .int v1), (0, .ref (α.1 6)), (1, .int p1)]) hx hb dX6_readSlot_13 rfl hl (by decide) rfl (fun ls hl => ?_)
  refine lv_aload_n hx hb dX6_readSlot_14 rfl (lv_at hl 2 rfl) ?_
  refine va_get (D := D) (ci := 6) (v := .int (σ2.1 21)) (C := RX6) (T := TX6) (N := 5) hx hb hts in_X6 hown hK hP 6 (sm_gX6 σ2 α) rfl 4 (by decide) k_1 (fun _ h9 => h9) rfl dX6_readSlot_15 ?_
  refine lv_iconst (v := -1) hx hb dX6_readSlot_18 (by decide) ?_
  refine lv_icmp_ne (tgt := 45) hx hb dX6_readSlot_19 (by decide) (fun h4 => ?_) (fun h4 => ?_)
  · replace hF := hF.1 h4
    exact B45 σ2 hF H locs ls hP hS (lv_sub hl [] rfl)
  · replace hF := hF.2 h4
    refine lv_aload_n hx hb dX6_readSlot_22 rfl (lv_at hl 2 rfl) ?_
    refine va_get (D := D) (ci := 6) (v := .ref (α.1 0)) (C := RX6) (T := TX6) (N := 5) hx hb hts in_X6 hown hK hP 6 (sm_gX6 σ2 α) rfl 1 (by decide) k_2 (fun _ h9 => h9) rfl dX6_readSlot_23 ?_
    refine va_get (D := D) (ci := 0) (v := .ref (α.1 14)) (C := RX0) (T := TX0) (N := 7) hx hb hts in_X0 hown hK hP 0 (sm_gX0 σ2 α) rfl 4 (by decide) k_3 (fun _ h9 => h9) rfl dX6_readSlot_26 ?_
    refine lv_iload_n hx hb dX6_readSlot_29 rfl (lv_at hl 3 rfl) ?_
    refine lv_bipush (v := 16) hx hb dX6_readSlot_30 (by decide) ?_
    refine lv_imul hx hb dX6_readSlot_32 ?_
    refine lv_iload_n hx hb dX6_readSlot_33 rfl (lv_at hl 0 rfl) ?_
    refine lv_iadd hx hb dX6_readSlot_34 ?_
    obtain ⟨h5, hF⟩ := hF
    refine va_iald (n := (σ2.2.2.1 14)) (f := (σ2.2.2.2.1 14)) hx hb hK hP 14 3 (sm_aX14 σ2 α) (sm_yX14 α) h5 dX6_readSlot_35 ?_
    refine lv_iconst (v := -1) hx hb dX6_readSlot_36 (by decide) ?_
    refine lv_icmp_ne (tgt := 45) hx hb dX6_readSlot_37 (by decide) (fun h6 => ?_) (fun h6 => ?_)
    · replace hF := hF.1 h6
      exact B45 σ2 hF H locs ls hP hS (lv_sub hl [] rfl)
    · replace hF := hF.2 h6
      refine lv_aload_n hx hb dX6_readSlot_40 rfl (lv_at hl 2 rfl) ?_
      refine lv_iload_n hx hb dX6_readSlot_41 rfl (lv_at hl 1 rfl) ?_
      refine va_put (D := D) (ci := 6) (v := .int v1) (ty := .int) (C := RX6) (T := TX6) (N := 5) hx hb hts in_X6 tyX6 tyX6_ok nmX6 hown hK hP (hD.to (sm_wX_m _ _)) hS 6 (sm_gX6 σ2 α) rfl 4 (by decide) k_1 (fun _ h9 => h9) rfl (by decide +kernel) rfl rfl (Nat.le_of_ble_eq_true rfl) dX6_readSlot_42 (fun H locs hP _ hS => ?_)
      rw [sm_iX21] at hP
      obtain ⟨σ7, eσ7⟩ : ∃ x : sm_S, x = sm_i σ2 21 v1 := ⟨_, rfl⟩
      replace hF := hF σ7 eσ7
      rw [← eσ7] at hP
      exact B45 σ7 hF H locs ls hP hS (lv_sub hl [] rfl)
theorem dX6_skip_0 : decode cX6_skip 0 = .ok (.iconst 0, 1) := by decide +kernel
theorem dX6_skip_1 : decode cX6_skip 1 = .ok (.istore_n 2, 1) := by decide +kernel
theorem dX6_skip_2 : decode cX6_skip 2 = .ok (.iload_n 2, 1) := by decide +kernel
theorem dX6_skip_3 : decode cX6_skip 3 = .ok (.iload_n 1, 1) := by decide +kernel
theorem dX6_skip_4 : decode cX6_skip 4 = .ok (.if_icmp .ge 19, 3) := by decide +kernel
theorem dX6_skip_7 : decode cX6_skip 7 = .ok (.aload_n 0, 1) := by decide +kernel
theorem dX6_skip_8 : decode cX6_skip 8 = .ok (.iconst 0, 1) := by decide +kernel
theorem dX6_skip_9 : decode cX6_skip 9 = .ok (.sipush 255, 3) := by decide +kernel
theorem dX6_skip_12 : decode cX6_skip 12 = .ok (.iconst (-1), 1) := by decide +kernel
theorem dX6_skip_13 : decode cX6_skip 13 = .ok (.invokevirtual 34, 3) := by decide +kernel
theorem dX6_skip_16 : decode cX6_skip 16 = .ok (.pop, 1) := by decide +kernel
theorem dX6_skip_17 : decode cX6_skip 17 = .ok (.iinc 2 1, 3) := by decide +kernel
theorem dX6_skip_20 : decode cX6_skip 20 = .ok (.goto (-18), 3) := by decide +kernel
theorem dX6_skip_23 : decode cX6_skip 23 = .ok (.return_, 1) := by decide +kernel
def wp_X6_skip : List Cond := .code yX6_skip cX6_skip 3 none :: ([] ++ (wsV RX6 34 RX6 yX6_number wp_X6_number))
theorem wq_X6_skip : wp_X6_skip.all goodWord = true := wa_c rfl (wa_a (by decide +kernel) (wa_V wq_X6_number))
theorem wt_X6_skip : GoodIn lw_tbl wp_X6_skip := wm_c (List.mem_of_getElem? (i := 694) (by decide +kernel)) rfl (wm_a (goodIn_r _ [] (by decide +kernel) (by decide +kernel)) (wm_a (goodIn_r _ [649, 651, 1, 140] (by decide +kernel) (by decide +kernel)) wt_X6_number))
theorem wg_X6_skip_X6_number_34 : GoodIn wp_X6_skip (wsV RX6 34 RX6 yX6_number wp_X6_number) := goodIn_sub (fun w h => List.mem_cons_of_mem _ (List.mem_append_right _ h)) (wa_V wq_X6_number)
set_option maxHeartbeats 4000000 in
set_option maxRecDepth 100000 in
theorem c_X6_skip (l : Launch) (D : va_G) (sz t0 : Nat) (σ : sm_S) (α : sm_A) (p1 : Int32) (K : sm_S → Prop) (hF : mp_X6_skip σ p1 K) : Met l yX6_skip wp_X6_skip { frames := 2, cells := 0, slots := 0, locals := 45 } (sm_P sm_wX sm_tX 37 D sz t0 σ α [.ref (α.1 6), .int p1]) (va_Qv K (sm_B sm_wX D α) (sm_a α 37 sz)) 0 0 (sm_a α 37 sz) := by
  refine Met.ofW (cc := cX6_skip) (maxL := 3) (ret := none) (by decide) rfl ?_
  intro p e s m args below meth c s₁ B hml hv
  obtain ⟨rfl, hsz, hP, hK, hD0, hE⟩ := hv
  have hx := B.exec
  have hb := B.bytes
  have hr := B.returns
  have hts := atoms_spec (ws := wp_X6_skip) B.pre
  have hown : s.vm.findClass RX6 = some m.cls := findClass_of_methodNamed B.named
  have hlocks := B.notSynchronized
  subst hsz
  have hD : sm_D (sm_a α 37 s.heap.size) α 37 := hD0.own
  have hA : ∀ q : Nat, s.heap.size ≤ q → sm_a α 37 s.heap.size q := fun q h => Or.inr h
  generalize hAe : sm_a α 37 s.heap.size = A at hD hA hE ⊢
  have hS : va_S A s.heap s.heap [] := va_S.rf
  have hl := lv_entry ([.ref (α.1 6), .int p1]) (n := 3) (Nat.le_of_ble_eq_true rfl)
  rw [lg_entry_eq]
  generalize (lg_sl ([.ref (α.1 6), .int p1]) ++ List.replicate (3 - (lg_sl ([.ref (α.1 6), .int p1])).length) Slot.unset).toArray = ls at hl ⊢
  have hl : lv_has ls 3 [(0, .ref (α.1 6)), (1, .int p1)] := hl
  have B2 : ∀ (n : Nat) (σ : sm_S) (x1 : Int32) (x2 : Int32), mp_X6_skip_2 K n σ x1 x2 → sm_J p l e (headSpec wp_X6_skip { frames := 2, cells := 0, slots := 0, locals := 45 }).room s m ([.ref (α.1 6), .int p1] : List Value).toArray below meth c (MQ below (va_Qv K (sm_B sm_wX D α) A) ([.ref (α.1 6), .int p1] : List Value).toArray s 0 0 A) D A 3 (sm_wX σ α) 2 [(0, .ref (α.1 6)), (1, .int x1), (2, .int x2)] [] := by
    intro n2
    induction n2 with
    | zero =>
      intro σ x1 x2 hF
      exact hF.elim
    | succ n2 ih2 =>
      intro σ x1 x2 hF H locs ls hP hS hl
      unfold mp_X6_skip_2 at hF
      refine lv_iload_n hx hb dX6_skip_2 rfl (lv_at hl 2 rfl) ?_
      refine lv_iload_n hx hb dX6_skip_3 rfl (lv_at hl 1 rfl) ?_
      refine lv_icmp_ge (tgt := 23) hx hb dX6_skip_4 (by decide) (fun h1 => ?_) (fun h1 => ?_)
      · replace hF := hF.1 h1
        exact W.vret hx hb hr (fun t ht hW => ⟨⟨σ, rfl, hF, (by unfold sm_B; rw [ht]; exact hP)⟩, hS.F ht⟩) hS.2.2 dX6_skip_23
      · replace hF := hF.2 h1
        refine lv_aload_n hx hb dX6_skip_7 rfl (lv_at hl 0 rfl) ?_
        refine lv_iconst (v := 0) hx hb dX6_skip_8 (by decide) ?_
        refine lv_sipush (v := 255) hx hb dX6_skip_9 (by decide) ?_
        refine lv_iconst (v := -1) hx hb dX6_skip_12 (by decide) ?_
        refine sm_vi (As := [.int 0, .int 255, .int (-1)]) (rest := []) hP hK hD hE hS hA ⟨hx, hb, hml, hown, hts⟩ hl.1 (c_X6_number l D H.size t0 σ α 0 255 (-1) _ hF) (cwV 3 hts wg_X6_skip_X6_number_34 rfl rfl rfl (by decide +kernel) ⟨Nat.le_of_ble_eq_true rfl, Nat.le_of_ble_eq_true rfl⟩) (va_recv hK hP (ci := 6) (q0 := 6) rfl (sm_gX6 σ α)) rfl rfl (Nat.le_of_ble_eq_true rfl) dX6_skip_13 ⟨Nat.zero_le _, Nat.zero_le _⟩ (fun r3 σ2 H locs hF hP hS => ?_)
        refine lv_pop hx hb dX6_skip_16 rfl ?_
        obtain ⟨v4, ev4⟩ : ∃ y : Int32, y = x2 + 1 := ⟨_, rfl⟩
        replace hF := hF v4 ev4
        refine lv_iinc (v := v4) (lv' := [(2, .int v4), (0, .ref (α.1 6)), (1, .int x1)]) hx hb dX6_skip_17 hl (k := 2) rfl (by rw [ev4]; rfl) (by decide) rfl (fun ls hl => ?_)
        refine lv_goto (tgt := 2) hx hb dX6_skip_20 (by decide) ?_
        exact ih2 σ2 x1 v4 hF H locs ls hP hS (lv_sub hl [1, 2, 0] rfl)
  unfold mp_X6_skip at hF
  revert hP hS
  generalize hLo : ([] : List Loc) = locs
  suffices h9 : ∀ (H : Heap) (locs : List Loc), va_P D vwCl (sm_wX σ α) H → va_S A s.heap H locs → W p l e (headSpec wp_X6_skip { frames := 2, cells := 0, slots := 0, locals := 45 }).room s m ([.ref (α.1 6), .int p1] : List Value).toArray below meth c H locs 0 0 (MQ below (va_Qv K (sm_B sm_wX D α) A) ([.ref (α.1 6), .int p1] : List Value).toArray s 0 0 A) (F0 m 0 ls []) from fun hP hS => h9 s.heap locs hP hS
  intro H locs hP hS
  refine lv_iconst (v := 0) hx hb dX6_skip_0 (by decide) ?_
  refine lv_istore_n (lv' := [(2, .int 0), (0, .ref (α.1 6)), (1, .int p1)]) hx hb dX6_skip_1 rfl hl (by decide) rfl (fun ls hl => ?_)
  obtain ⟨n2, hF⟩ := hF
  exact B2 n2 σ p1 0 hF H locs ls hP hS (lv_sub hl [1, 2, 0] rfl)
theorem dX6_readOperands_0 : decode cX6_readOperands 0 = .ok (.iload_n 1, 1) := by decide +kernel
theorem dX6_readOperands_1 : decode cX6_readOperands 1 = .ok (.tableswitch 277 2 36 #[155, 155, 277, 277, 277, 277, 277, 277, 277, 277, 277, 277, 277, 277, 277, 277, 277, 168, 168, 277, 277, 277, 277, 277, 184, 203, 203, 184, 184, 238, 277, 277, 277, 277, 255], 155) := by decide +kernel
theorem dX6_readOperands_156 : decode cX6_readOperands 156 = .ok (.aload_n 0, 1) := by decide +kernel
theorem dX6_readOperands_157 : decode cX6_readOperands 157 = .ok (.iconst 0, 1) := by decide +kernel
theorem dX6_readOperands_158 : decode cX6_readOperands 158 = .ok (.iload_n 2, 1) := by decide +kernel
theorem dX6_readOperands_159 : decode cX6_readOperands 159 = .ok (.iconst 1, 1) := by decide +kernel
theorem dX6_readOperands_160 : decode cX6_readOperands 160 = .ok (.isub, 1) := by decide +kernel
theorem dX6_readOperands_161 : decode cX6_readOperands 161 = .ok (.iconst (-1), 1) := by decide +kernel
theorem dX6_readOperands_162 : decode cX6_readOperands 162 = .ok (.invokevirtual 34, 3) := by decide +kernel
theorem dX6_readOperands_165 : decode cX6_readOperands 165 = .ok (.pop, 1) := by decide +kernel
theorem dX6_readOperands_166 : decode cX6_readOperands 166 = .ok (.goto 123, 3) := by decide +kernel
theorem dX6_readOperands_169 : decode cX6_readOperands 169 = .ok (.aload_n 0, 1) := by decide +kernel
theorem dX6_readOperands_170 : decode cX6_readOperands 170 = .ok (.iconst 0, 1) := by decide +kernel
theorem dX6_readOperands_171 : decode cX6_readOperands 171 = .ok (.iconst 5, 1) := by decide +kernel
theorem dX6_readOperands_172 : decode cX6_readOperands 172 = .ok (.iconst (-1), 1) := by decide +kernel
theorem dX6_readOperands_173 : decode cX6_readOperands 173 = .ok (.invokevirtual 34, 3) := by decide +kernel
theorem dX6_readOperands_176 : decode cX6_readOperands 176 = .ok (.pop, 1) := by decide +kernel
theorem dX6_readOperands_177 : decode cX6_readOperands 177 = .ok (.aload_n 0, 1) := by decide +kernel
theorem dX6_readOperands_178 : decode cX6_readOperands 178 = .ok (.iconst 2, 1) := by decide +kernel
theorem dX6_readOperands_179 : decode cX6_readOperands 179 = .ok (.invokevirtual 122, 3) := by decide +kernel
theorem dX6_readOperands_182 : decode cX6_readOperands 182 = .ok (.goto 107, 3) := by decide +kernel
theorem dX6_readOperands_185 : decode cX6_readOperands 185 = .ok (.aload_n 0, 1) := by decide +kernel
theorem dX6_readOperands_186 : decode cX6_readOperands 186 = .ok (.iconst 0, 1) := by decide +kernel
theorem dX6_readOperands_187 : decode cX6_readOperands 187 = .ok (.aload_n 0, 1) := by decide +kernel
theorem dX6_readOperands_188 : decode cX6_readOperands 188 = .ok (.getfield 21, 3) := by decide +kernel
theorem dX6_readOperands_191 : decode cX6_readOperands 191 = .ok (.getfield 38, 3) := by decide +kernel
theorem dX6_readOperands_194 : decode cX6_readOperands 194 = .ok (.iconst 1, 1) := by decide +kernel
theorem dX6_readOperands_195 : decode cX6_readOperands 195 = .ok (.isub, 1) := by decide +kernel
theorem dX6_readOperands_196 : decode cX6_readOperands 196 = .ok (.iconst (-1), 1) := by decide +kernel
theorem dX6_readOperands_197 : decode cX6_readOperands 197 = .ok (.invokevirtual 34, 3) := by decide +kernel
theorem dX6_readOperands_200 : decode cX6_readOperands 200 = .ok (.pop, 1) := by decide +kernel
theorem dX6_readOperands_201 : decode cX6_readOperands 201 = .ok (.goto 88, 3) := by decide +kernel
theorem dX6_readOperands_204 : decode cX6_readOperands 204 = .ok (.aload_n 0, 1) := by decide +kernel
theorem dX6_readOperands_205 : decode cX6_readOperands 205 = .ok (.iconst 0, 1) := by decide +kernel
theorem dX6_readOperands_206 : decode cX6_readOperands 206 = .ok (.aload_n 0, 1) := by decide +kernel
theorem dX6_readOperands_207 : decode cX6_readOperands 207 = .ok (.getfield 21, 3) := by decide +kernel
theorem dX6_readOperands_210 : decode cX6_readOperands 210 = .ok (.getfield 70, 3) := by decide +kernel
theorem dX6_readOperands_213 : decode cX6_readOperands 213 = .ok (.aload_n 0, 1) := by decide +kernel
theorem dX6_readOperands_214 : decode cX6_readOperands 214 = .ok (.iconst 0, 1) := by decide +kernel
theorem dX6_readOperands_215 : decode cX6_readOperands 215 = .ok (.aload_n 0, 1) := by decide +kernel
theorem dX6_readOperands_216 : decode cX6_readOperands 216 = .ok (.getfield 21, 3) := by decide +kernel
theorem dX6_readOperands_219 : decode cX6_readOperands 219 = .ok (.getfield 38, 3) := by decide +kernel
theorem dX6_readOperands_222 : decode cX6_readOperands 222 = .ok (.iconst 1, 1) := by decide +kernel
theorem dX6_readOperands_223 : decode cX6_readOperands 223 = .ok (.isub, 1) := by decide +kernel
theorem dX6_readOperands_224 : decode cX6_readOperands 224 = .ok (.iconst (-1), 1) := by decide +kernel
theorem dX6_readOperands_225 : decode cX6_readOperands 225 = .ok (.invokevirtual 34, 3) := by decide +kernel
theorem dX6_readOperands_228 : decode cX6_readOperands 228 = .ok (.iaload, 1) := by decide +kernel
theorem dX6_readOperands_229 : decode cX6_readOperands 229 = .ok (.iconst 1, 1) := by decide +kernel
theorem dX6_readOperands_230 : decode cX6_readOperands 230 = .ok (.isub, 1) := by decide +kernel
theorem dX6_readOperands_231 : decode cX6_readOperands 231 = .ok (.iconst (-1), 1) := by decide +kernel
theorem dX6_readOperands_232 : decode cX6_readOperands 232 = .ok (.invokevirtual 34, 3) := by decide +kernel
theorem dX6_readOperands_235 : decode cX6_readOperands 235 = .ok (.pop, 1) := by decide +kernel
theorem dX6_readOperands_236 : decode cX6_readOperands 236 = .ok (.goto 53, 3) := by decide +kernel
theorem dX6_readOperands_239 : decode cX6_readOperands 239 = .ok (.aload_n 0, 1) := by decide +kernel
theorem dX6_readOperands_240 : decode cX6_readOperands 240 = .ok (.iconst 0, 1) := by decide +kernel
theorem dX6_readOperands_241 : decode cX6_readOperands 241 = .ok (.aload_n 0, 1) := by decide +kernel
theorem dX6_readOperands_242 : decode cX6_readOperands 242 = .ok (.getfield 21, 3) := by decide +kernel
theorem dX6_readOperands_245 : decode cX6_readOperands 245 = .ok (.getfield 38, 3) := by decide +kernel
theorem dX6_readOperands_248 : decode cX6_readOperands 248 = .ok (.iconst (-1), 1) := by decide +kernel
theorem dX6_readOperands_249 : decode cX6_readOperands 249 = .ok (.invokevirtual 34, 3) := by decide +kernel
theorem dX6_readOperands_252 : decode cX6_readOperands 252 = .ok (.pop, 1) := by decide +kernel
theorem dX6_readOperands_253 : decode cX6_readOperands 253 = .ok (.goto 36, 3) := by decide +kernel
theorem dX6_readOperands_256 : decode cX6_readOperands 256 = .ok (.aload_n 0, 1) := by decide +kernel
theorem dX6_readOperands_257 : decode cX6_readOperands 257 = .ok (.aload_n 0, 1) := by decide +kernel
theorem dX6_readOperands_258 : decode cX6_readOperands 258 = .ok (.iconst 0, 1) := by decide +kernel
theorem dX6_readOperands_259 : decode cX6_readOperands 259 = .ok (.aload_n 0, 1) := by decide +kernel
theorem dX6_readOperands_260 : decode cX6_readOperands 260 = .ok (.getfield 21, 3) := by decide +kernel
theorem dX6_readOperands_263 : decode cX6_readOperands 263 = .ok (.getfield 38, 3) := by decide +kernel
theorem dX6_readOperands_266 : decode cX6_readOperands 266 = .ok (.iconst 1, 1) := by decide +kernel
theorem dX6_readOperands_267 : decode cX6_readOperands 267 = .ok (.isub, 1) := by decide +kernel
theorem dX6_readOperands_268 : decode cX6_readOperands 268 = .ok (.iconst (-1), 1) := by decide +kernel
theorem dX6_readOperands_269 : decode cX6_readOperands 269 = .ok (.invokevirtual 34, 3) := by decide +kernel
theorem dX6_readOperands_272 : decode cX6_readOperands 272 = .ok (.invokevirtual 138, 3) := by decide +kernel
theorem dX6_readOperands_275 : decode cX6_readOperands 275 = .ok (.goto 14, 3) := by decide +kernel
theorem dX6_readOperands_278 : decode cX6_readOperands 278 = .ok (.aload_n 0, 1) := by decide +kernel
theorem dX6_readOperands_279 : decode cX6_readOperands 279 = .ok (.getstatic 125, 3) := by decide +kernel
theorem dX6_readOperands_282 : decode cX6_readOperands 282 = .ok (.iload_n 1, 1) := by decide +kernel
theorem dX6_readOperands_283 : decode cX6_readOperands 283 = .ok (.iaload, 1) := by decide +kernel
theorem dX6_readOperands_284 : decode cX6_readOperands 284 = .ok (.iconst 1, 1) := by decide +kernel
theorem dX6_readOperands_285 : decode cX6_readOperands 285 = .ok (.isub, 1) := by decide +kernel
theorem dX6_readOperands_286 : decode cX6_readOperands 286 = .ok (.invokevirtual 122, 3) := by decide +kernel
theorem dX6_readOperands_289 : decode cX6_readOperands 289 = .ok (.return_, 1) := by decide +kernel
def wp_X6_readOperands : List Cond := .code yX6_readOperands cX6_readOperands 3 none :: ((((([.fieldLink RX6 21 "SteadyMachine$Reader" "classes" "LSteadyMachine$Classes;", .fieldLink RX6 38 "SteadyMachine$Classes" "many" "I", .fieldLink RX6 70 "SteadyMachine$Classes" "fields" "[I"] ++ (wsV RX6 34 RX6 yX6_number wp_X6_number)) ++ (wsV RX6 122 RX6 yX6_skip wp_X6_skip)) ++ (wsV RX6 138 RX6 yX6_readSlot wp_X6_readSlot)) ++ wsX00) ++ wsX60)
theorem wq_X6_readOperands : wp_X6_readOperands.all goodWord = true := wa_c rfl (wa_a (wa_a (wa_a (wa_a (wa_a (by decide +kernel) (wa_V wq_X6_number)) (wa_V wq_X6_skip)) (wa_V wq_X6_readSlot)) uq_X0) uq_X6)
theorem wt_X6_readOperands : GoodIn lw_tbl wp_X6_readOperands := wm_c (List.mem_of_getElem? (i := 690) (by decide +kernel)) rfl (wm_a (wm_a (wm_a (wm_a (wm_a (goodIn_r _ [338, 172, 178] (by decide +kernel) (by decide +kernel)) (wm_a (goodIn_r _ [649, 651, 1, 140] (by decide +kernel) (by decide +kernel)) wt_X6_number)) (wm_a (goodIn_r _ [691, 693, 8, 140] (by decide +kernel) (by decide +kernel)) wt_X6_skip)) (wm_a (goodIn_r _ [695, 697, 9, 140] (by decide +kernel) (by decide +kernel)) wt_X6_readSlot)) ut_X0) ut_X6)
theorem wg_X6_readOperands_X6_number_34 : GoodIn wp_X6_readOperands (wsV RX6 34 RX6 yX6_number wp_X6_number) := goodIn_sub (fun w h => List.mem_cons_of_mem _ (List.mem_append_left _ (List.mem_append_left _ (List.mem_append_left _ (List.mem_append_left _ (List.mem_append_right _ h)))))) (wa_V wq_X6_number)
theorem wg_X6_readOperands_X6_skip_122 : GoodIn wp_X6_readOperands (wsV RX6 122 RX6 yX6_skip wp_X6_skip) := goodIn_sub (fun w h => List.mem_cons_of_mem _ (List.mem_append_left _ (List.mem_append_left _ (List.mem_append_left _ (List.mem_append_right _ h))))) (wa_V wq_X6_skip)
theorem wg_X6_readOperands_X6_readSlot_138 : GoodIn wp_X6_readOperands (wsV RX6 138 RX6 yX6_readSlot wp_X6_readSlot) := goodIn_sub (fun w h => List.mem_cons_of_mem _ (List.mem_append_left _ (List.mem_append_left _ (List.mem_append_right _ h)))) (wa_V wq_X6_readSlot)
theorem wi_X6_readOperands_X0 : ∀ w ∈ wsX00, w ∈ wp_X6_readOperands := fun w h => List.mem_cons_of_mem _ (List.mem_append_left _ (List.mem_append_right _ h))
theorem wi_X6_readOperands_X6 : ∀ w ∈ wsX60, w ∈ wp_X6_readOperands := fun w h => List.mem_cons_of_mem _ (List.mem_append_right _ h)
set_option maxHeartbeats 4000000 in
set_option maxRecDepth 100000 in
theorem c_X6_readOperands (l : Launch) (D : va_G) (sz t0 : Nat) (σ : sm_S) (α : sm_A) (p1 : Int32) (p2 : Int32) (K : sm_S → Prop) (hF : mp_X6_readOperands σ p1 p2 K) : Met l yX6_readOperands wp_X6_readOperands { frames := 3, cells := 0, slots := 0, locals := 68 } (sm_P sm_wX sm_tX 37 D sz t0 σ α [.ref (α.1 6), .int p1, .int p2]) (va_Qv K (sm_B sm_wX D α) (sm_a α 37 sz)) 0 0 (sm_a α 37 sz) := by
  refine Met.ofW (cc := cX6_readOperands) (maxL := 3) (ret := none) (by decide) rfl ?_
  intro p e s m args below meth c s₁ B hml hv
  obtain ⟨rfl, hsz, hP, hK, hD0, hE⟩ := hv
  have hx := B.exec
  have hb := B.bytes
  have hr := B.returns
  have hts := atoms_spec (ws := wp_X6_readOperands) B.pre
  have hown : s.vm.findClass RX6 = some m.cls := findClass_of_methodNamed B.named
  have hlocks := B.notSynchronized
  subst hsz
  have hD : sm_D (sm_a α 37 s.heap.size) α 37 := hD0.own
  have hA : ∀ q : Nat, s.heap.size ≤ q → sm_a α 37 s.heap.size q := fun q h => Or.inr h
  generalize hAe : sm_a α 37 s.heap.size = A at hD hA hE ⊢
  have hS : va_S A s.heap s.heap [] := va_S.rf
  have in_X0 : ∀ w ∈ wsX00, w ∈ wp_X6_readOperands := wi_X6_readOperands_X0
  have in_X6 : ∀ w ∈ wsX60, w ∈ wp_X6_readOperands := wi_X6_readOperands_X6
  have k_0 := hts (.fieldLink RX6 21 "SteadyMachine$Reader" "classes" "LSteadyMachine$Classes;") (by decide +kernel)
  have k_1 := hts (.fieldLink RX6 38 "SteadyMachine$Classes" "many" "I") (by decide +kernel)
  have k_2 := hts (.fieldLink RX6 70 "SteadyMachine$Classes" "fields" "[I") (by decide +kernel)
  have hl := lv_entry ([.ref (α.1 6), .int p1, .int p2]) (n := 3) (Nat.le_of_ble_eq_true rfl)
  rw [lg_entry_eq]
  generalize (lg_sl ([.ref (α.1 6), .int p1, .int p2]) ++ List.replicate (3 - (lg_sl ([.ref (α.1 6), .int p1, .int p2])).length) Slot.unset).toArray = ls at hl ⊢
  have hl : lv_has ls 3 [(0, .ref (α.1 6)), (1, .int p1), (2, .int p2)] := hl
  have B289 : ∀ (σ : sm_S), mp_X6_readOperands_289 K σ → sm_J p l e (headSpec wp_X6_readOperands { frames := 3, cells := 0, slots := 0, locals := 68 }).room s m ([.ref (α.1 6), .int p1, .int p2] : List Value).toArray below meth c (MQ below (va_Qv K (sm_B sm_wX D α) A) ([.ref (α.1 6), .int p1, .int p2] : List Value).toArray s 0 0 A) D A 3 (sm_wX σ α) 289 [] [] := by
    intro σ hF H locs ls hP hS hl
    unfold mp_X6_readOperands_289 at hF
    exact W.vret hx hb hr (fun t ht hW => ⟨⟨σ, rfl, hF, (by unfold sm_B; rw [ht]; exact hP)⟩, hS.F ht⟩) hS.2.2 dX6_readOperands_289
  unfold mp_X6_readOperands at hF
  revert hP hS
  generalize hLo : ([] : List Loc) = locs
  suffices h9 : ∀ (H : Heap) (locs : List Loc), va_P D vwCl (sm_wX σ α) H → va_S A s.heap H locs → W p l e (headSpec wp_X6_readOperands { frames := 3, cells := 0, slots := 0, locals := 68 }).room s m ([.ref (α.1 6), .int p1, .int p2] : List Value).toArray below meth c H locs 0 0 (MQ below (va_Qv K (sm_B sm_wX D α) A) ([.ref (α.1 6), .int p1, .int p2] : List Value).toArray s 0 0 A) (F0 m 0 ls []) from fun hP hS => h9 s.heap locs hP hS
  intro H locs hP hS
  refine lv_iload_n hx hb dX6_readOperands_0 rfl (lv_at hl 1 rfl) ?_
  by_cases h1 : p1 = 2
  · refine lv_tableIn (tgt := 156) hx hb dX6_readOperands_1 (by rw [h1]; decide) (by rw [h1]; decide) (by rw [h1]; rfl) (by decide) ?_
    replace hF := hF.1 h1
    refine lv_aload_n hx hb dX6_readOperands_156 rfl (lv_at hl 0 rfl) ?_
    refine lv_iconst (v := 0) hx hb dX6_readOperands_157 (by decide) ?_
    refine lv_iload_n hx hb dX6_readOperands_158 rfl (lv_at hl 2 rfl) ?_
    refine lv_iconst (v := 1) hx hb dX6_readOperands_159 (by decide) ?_
    refine lv_isub hx hb dX6_readOperands_160 ?_
    refine lv_iconst (v := -1) hx hb dX6_readOperands_161 (by decide) ?_
    refine sm_vi (As := [.int 0, .int (p2 - 1), .int (-1)]) (rest := []) hP hK hD hE hS hA ⟨hx, hb, hml, hown, hts⟩ hl.1 (c_X6_number l D H.size t0 σ α 0 (p2 - 1) (-1) _ hF) (cwV 3 hts wg_X6_readOperands_X6_number_34 rfl rfl rfl (by decide +kernel) ⟨Nat.le_of_ble_eq_true rfl, Nat.le_of_ble_eq_true rfl⟩) (va_recv hK hP (ci := 6) (q0 := 6) rfl (sm_gX6 σ α)) rfl rfl (Nat.le_of_ble_eq_true rfl) dX6_readOperands_162 ⟨Nat.zero_le _, Nat.zero_le _⟩ (fun r3 σ2 H locs hF hP hS => ?_)
    refine lv_pop hx hb dX6_readOperands_165 rfl ?_
    refine lv_goto (tgt := 289) hx hb dX6_readOperands_166 (by decide) ?_
    exact B289 σ2 hF H locs ls hP hS (lv_sub hl [] rfl)
  by_cases h4 : p1 = 3
  · refine lv_tableIn (tgt := 156) hx hb dX6_readOperands_1 (by rw [h4]; decide) (by rw [h4]; decide) (by rw [h4]; rfl) (by decide) ?_
    replace hF := hF.2.1 h4
    refine lv_aload_n hx hb dX6_readOperands_156 rfl (lv_at hl 0 rfl) ?_
    refine lv_iconst (v := 0) hx hb dX6_readOperands_157 (by decide) ?_
    refine lv_iload_n hx hb dX6_readOperands_158 rfl (lv_at hl 2 rfl) ?_
    refine lv_iconst (v := 1) hx hb dX6_readOperands_159 (by decide) ?_
    refine lv_isub hx hb dX6_readOperands_160 ?_
    refine lv_iconst (v := -1) hx hb dX6_readOperands_161 (by decide) ?_
    refine sm_vi (As := [.int 0, .int (p2 - 1), .int (-1)]) (rest := []) hP hK hD hE hS hA ⟨hx, hb, hml, hown, hts⟩ hl.1 (c_X6_number l D H.size t0 σ α 0 (p2 - 1) (-1) _ hF) (cwV 3 hts wg_X6_readOperands_X6_number_34 rfl rfl rfl (by decide +kernel) ⟨Nat.le_of_ble_eq_true rfl, Nat.le_of_ble_eq_true rfl⟩) (va_recv hK hP (ci := 6) (q0 := 6) rfl (sm_gX6 σ α)) rfl rfl (Nat.le_of_ble_eq_true rfl) dX6_readOperands_162 ⟨Nat.zero_le _, Nat.zero_le _⟩ (fun r6 σ5 H locs hF hP hS => ?_)
    refine lv_pop hx hb dX6_readOperands_165 rfl ?_
    refine lv_goto (tgt := 289) hx hb dX6_readOperands_166 (by decide) ?_
    exact B289 σ5 hF H locs ls hP hS (lv_sub hl [] rfl)
  by_cases h7 : p1 = 4
  · refine lv_tableIn (tgt := 278) hx hb dX6_readOperands_1 (by rw [h7]; decide) (by rw [h7]; decide) (by rw [h7]; rfl) (by decide) ?_
    replace hF := hF.2.2.1 h7
    refine lv_aload_n hx hb dX6_readOperands_278 rfl (lv_at hl 0 rfl) ?_
    refine va_getsN hx hb hE.2.1 hS hown (va_Nw.use rfl (hE.1 (.fieldLinkNest "SteadyMachine$Reader" 125 "SteadyMachine" "SIZE" "[I" "SteadyMachine") (by decide +kernel))) (fun _ h9 => h9) dX6_readOperands_279 ?_
    refine lv_iload_n hx hb dX6_readOperands_282 rfl (lv_at hl 1 rfl) ?_
    obtain ⟨h8, hF⟩ := hF
    refine va_ti hx hb hE.2.2 hS h8 (v := .int (sm_sz p1.toNatClampNeg)) rfl dX6_readOperands_283 ?_
    refine lv_iconst (v := 1) hx hb dX6_readOperands_284 (by decide) ?_
    refine lv_isub hx hb dX6_readOperands_285 ?_
    refine sm_vv (As := [.int ((sm_sz p1.toNatClampNeg) - 1)]) (rest := []) hP hK hD hE hS hA ⟨hx, hb, hml, hown, hts⟩ hl.1 (c_X6_skip l D H.size t0 σ α ((sm_sz p1.toNatClampNeg) - 1) _ hF) (cwV 1 hts wg_X6_readOperands_X6_skip_122 rfl rfl rfl (by decide +kernel) ⟨Nat.le_of_ble_eq_true rfl, Nat.le_of_ble_eq_true rfl⟩) (va_recv hK hP (ci := 6) (q0 := 6) rfl (sm_gX6 σ α)) rfl rfl (Nat.le_of_ble_eq_true rfl) dX6_readOperands_286 ⟨Nat.zero_le _, Nat.zero_le _⟩ (fun σ9 H locs hF hP hS => ?_)
    exact B289 σ9 hF H locs ls hP hS (lv_sub hl [] rfl)
  by_cases h10 : p1 = 5
  · refine lv_tableIn (tgt := 278) hx hb dX6_readOperands_1 (by rw [h10]; decide) (by rw [h10]; decide) (by rw [h10]; rfl) (by decide) ?_
    replace hF := hF.2.2.2.1 h10
    refine lv_aload_n hx hb dX6_readOperands_278 rfl (lv_at hl 0 rfl) ?_
    refine va_getsN hx hb hE.2.1 hS hown (va_Nw.use rfl (hE.1 (.fieldLinkNest "SteadyMachine$Reader" 125 "SteadyMachine" "SIZE" "[I" "SteadyMachine") (by decide +kernel))) (fun _ h9 => h9) dX6_readOperands_279 ?_
    refine lv_iload_n hx hb dX6_readOperands_282 rfl (lv_at hl 1 rfl) ?_
    obtain ⟨h11, hF⟩ := hF
    refine va_ti hx hb hE.2.2 hS h11 (v := .int (sm_sz p1.toNatClampNeg)) rfl dX6_readOperands_283 ?_
    refine lv_iconst (v := 1) hx hb dX6_readOperands_284 (by decide) ?_
    refine lv_isub hx hb dX6_readOperands_285 ?_
    refine sm_vv (As := [.int ((sm_sz p1.toNatClampNeg) - 1)]) (rest := []) hP hK hD hE hS hA ⟨hx, hb, hml, hown, hts⟩ hl.1 (c_X6_skip l D H.size t0 σ α ((sm_sz p1.toNatClampNeg) - 1) _ hF) (cwV 1 hts wg_X6_readOperands_X6_skip_122 rfl rfl rfl (by decide +kernel) ⟨Nat.le_of_ble_eq_true rfl, Nat.le_of_ble_eq_true rfl⟩) (va_recv hK hP (ci := 6) (q0 := 6) rfl (sm_gX6 σ α)) rfl rfl (Nat.le_of_ble_eq_true rfl) dX6_readOperands_286 ⟨Nat.zero_le _, Nat.zero_le _⟩ (fun σ12 H locs hF hP hS => ?_)
    exact B289 σ12 hF H locs ls hP hS (lv_sub hl [] rfl)
  by_cases h13 : p1 = 6
  · refine lv_tableIn (tgt := 278) hx hb dX6_readOperands_1 (by rw [h13]; decide) (by rw [h13]; decide) (by rw [h13]; rfl) (by decide) ?_
    replace hF := hF.2.2.2.2.1 h13
    refine lv_aload_n hx hb dX6_readOperands_278 rfl (lv_at hl 0 rfl) ?_
    refine va_getsN hx hb hE.2.1 hS hown (va_Nw.use rfl (hE.1 (.fieldLinkNest "SteadyMachine$Reader" 125 "SteadyMachine" "SIZE" "[I" "SteadyMachine") (by decide +kernel))) (fun _ h9 => h9) dX6_readOperands_279 ?_
    refine lv_iload_n hx hb dX6_readOperands_282 rfl (lv_at hl 1 rfl) ?_
    obtain ⟨h14, hF⟩ := hF
    refine va_ti hx hb hE.2.2 hS h14 (v := .int (sm_sz p1.toNatClampNeg)) rfl dX6_readOperands_283 ?_
    refine lv_iconst (v := 1) hx hb dX6_readOperands_284 (by decide) ?_
    refine lv_isub hx hb dX6_readOperands_285 ?_
    refine sm_vv (As := [.int ((sm_sz p1.toNatClampNeg) - 1)]) (rest := []) hP hK hD hE hS hA ⟨hx, hb, hml, hown, hts⟩ hl.1 (c_X6_skip l D H.size t0 σ α ((sm_sz p1.toNatClampNeg) - 1) _ hF) (cwV 1 hts wg_X6_readOperands_X6_skip_122 rfl rfl rfl (by decide +kernel) ⟨Nat.le_of_ble_eq_true rfl, Nat.le_of_ble_eq_true rfl⟩) (va_recv hK hP (ci := 6) (q0 := 6) rfl (sm_gX6 σ α)) rfl rfl (Nat.le_of_ble_eq_true rfl) dX6_readOperands_286 ⟨Nat.zero_le _, Nat.zero_le _⟩ (fun σ15 H locs hF hP hS => ?_)
    exact B289 σ15 hF H locs ls hP hS (lv_sub hl [] rfl)
  by_cases h16 : p1 = 7
  · refine lv_tableIn (tgt := 278) hx hb dX6_readOperands_1 (by rw [h16]; decide) (by rw [h16]; decide) (by rw [h16]; rfl) (by decide) ?_
    replace hF := hF.2.2.2.2.2.1 h16
    refine lv_aload_n hx hb dX6_readOperands_278 rfl (lv_at hl 0 rfl) ?_
    refine va_getsN hx hb hE.2.1 hS hown (va_Nw.use rfl (hE.1 (.fieldLinkNest "SteadyMachine$Reader" 125 "SteadyMachine" "SIZE" "[I" "SteadyMachine") (by decide +kernel))) (fun _ h9 => h9) dX6_readOperands_279 ?_
    refine lv_iload_n hx hb dX6_readOperands_282 rfl (lv_at hl 1 rfl) ?_
    obtain ⟨h17, hF⟩ := hF
    refine va_ti hx hb hE.2.2 hS h17 (v := .int (sm_sz p1.toNatClampNeg)) rfl dX6_readOperands_283 ?_
    refine lv_iconst (v := 1) hx hb dX6_readOperands_284 (by decide) ?_
    refine lv_isub hx hb dX6_readOperands_285 ?_
    refine sm_vv (As := [.int ((sm_sz p1.toNatClampNeg) - 1)]) (rest := []) hP hK hD hE hS hA ⟨hx, hb, hml, hown, hts⟩ hl.1 (c_X6_skip l D H.size t0 σ α ((sm_sz p1.toNatClampNeg) - 1) _ hF) (cwV 1 hts wg_X6_readOperands_X6_skip_122 rfl rfl rfl (by decide +kernel) ⟨Nat.le_of_ble_eq_true rfl, Nat.le_of_ble_eq_true rfl⟩) (va_recv hK hP (ci := 6) (q0 := 6) rfl (sm_gX6 σ α)) rfl rfl (Nat.le_of_ble_eq_true rfl) dX6_readOperands_286 ⟨Nat.zero_le _, Nat.zero_le _⟩ (fun σ18 H locs hF hP hS => ?_)
    exact B289 σ18 hF H locs ls hP hS (lv_sub hl [] rfl)
  by_cases h19 : p1 = 8
  · refine lv_tableIn (tgt := 278) hx hb dX6_readOperands_1 (by rw [h19]; decide) (by rw [h19]; decide) (by rw [h19]; rfl) (by decide) ?_
    replace hF := hF.2.2.2.2.2.2.1 h19
    refine lv_aload_n hx hb dX6_readOperands_278 rfl (lv_at hl 0 rfl) ?_
    refine va_getsN hx hb hE.2.1 hS hown (va_Nw.use rfl (hE.1 (.fieldLinkNest "SteadyMachine$Reader" 125 "SteadyMachine" "SIZE" "[I" "SteadyMachine") (by decide +kernel))) (fun _ h9 => h9) dX6_readOperands_279 ?_
    refine lv_iload_n hx hb dX6_readOperands_282 rfl (lv_at hl 1 rfl) ?_
    obtain ⟨h20, hF⟩ := hF
    refine va_ti hx hb hE.2.2 hS h20 (v := .int (sm_sz p1.toNatClampNeg)) rfl dX6_readOperands_283 ?_
    refine lv_iconst (v := 1) hx hb dX6_readOperands_284 (by decide) ?_
    refine lv_isub hx hb dX6_readOperands_285 ?_
    refine sm_vv (As := [.int ((sm_sz p1.toNatClampNeg) - 1)]) (rest := []) hP hK hD hE hS hA ⟨hx, hb, hml, hown, hts⟩ hl.1 (c_X6_skip l D H.size t0 σ α ((sm_sz p1.toNatClampNeg) - 1) _ hF) (cwV 1 hts wg_X6_readOperands_X6_skip_122 rfl rfl rfl (by decide +kernel) ⟨Nat.le_of_ble_eq_true rfl, Nat.le_of_ble_eq_true rfl⟩) (va_recv hK hP (ci := 6) (q0 := 6) rfl (sm_gX6 σ α)) rfl rfl (Nat.le_of_ble_eq_true rfl) dX6_readOperands_286 ⟨Nat.zero_le _, Nat.zero_le _⟩ (fun σ21 H locs hF hP hS => ?_)
    exact B289 σ21 hF H locs ls hP hS (lv_sub hl [] rfl)
  by_cases h22 : p1 = 9
  · refine lv_tableIn (tgt := 278) hx hb dX6_readOperands_1 (by rw [h22]; decide) (by rw [h22]; decide) (by rw [h22]; rfl) (by decide) ?_
    replace hF := hF.2.2.2.2.2.2.2.1 h22
    refine lv_aload_n hx hb dX6_readOperands_278 rfl (lv_at hl 0 rfl) ?_
    refine va_getsN hx hb hE.2.1 hS hown (va_Nw.use rfl (hE.1 (.fieldLinkNest "SteadyMachine$Reader" 125 "SteadyMachine" "SIZE" "[I" "SteadyMachine") (by decide +kernel))) (fun _ h9 => h9) dX6_readOperands_279 ?_
    refine lv_iload_n hx hb dX6_readOperands_282 rfl (lv_at hl 1 rfl) ?_
    obtain ⟨h23, hF⟩ := hF
    refine va_ti hx hb hE.2.2 hS h23 (v := .int (sm_sz p1.toNatClampNeg)) rfl dX6_readOperands_283 ?_
    refine lv_iconst (v := 1) hx hb dX6_readOperands_284 (by decide) ?_
    refine lv_isub hx hb dX6_readOperands_285 ?_
    refine sm_vv (As := [.int ((sm_sz p1.toNatClampNeg) - 1)]) (rest := []) hP hK hD hE hS hA ⟨hx, hb, hml, hown, hts⟩ hl.1 (c_X6_skip l D H.size t0 σ α ((sm_sz p1.toNatClampNeg) - 1) _ hF) (cwV 1 hts wg_X6_readOperands_X6_skip_122 rfl rfl rfl (by decide +kernel) ⟨Nat.le_of_ble_eq_true rfl, Nat.le_of_ble_eq_true rfl⟩) (va_recv hK hP (ci := 6) (q0 := 6) rfl (sm_gX6 σ α)) rfl rfl (Nat.le_of_ble_eq_true rfl) dX6_readOperands_286 ⟨Nat.zero_le _, Nat.zero_le _⟩ (fun σ24 H locs hF hP hS => ?_)
    exact B289 σ24 hF H locs ls hP hS (lv_sub hl [] rfl)
  by_cases h25 : p1 = 10
  · refine lv_tableIn (tgt := 278) hx hb dX6_readOperands_1 (by rw [h25]; decide) (by rw [h25]; decide) (by rw [h25]; rfl) (by decide) ?_
    replace hF := hF.2.2.2.2.2.2.2.2.1 h25
    refine lv_aload_n hx hb dX6_readOperands_278 rfl (lv_at hl 0 rfl) ?_
    refine va_getsN hx hb hE.2.1 hS hown (va_Nw.use rfl (hE.1 (.fieldLinkNest "SteadyMachine$Reader" 125 "SteadyMachine" "SIZE" "[I" "SteadyMachine") (by decide +kernel))) (fun _ h9 => h9) dX6_readOperands_279 ?_
    refine lv_iload_n hx hb dX6_readOperands_282 rfl (lv_at hl 1 rfl) ?_
    obtain ⟨h26, hF⟩ := hF
    refine va_ti hx hb hE.2.2 hS h26 (v := .int (sm_sz p1.toNatClampNeg)) rfl dX6_readOperands_283 ?_
    refine lv_iconst (v := 1) hx hb dX6_readOperands_284 (by decide) ?_
    refine lv_isub hx hb dX6_readOperands_285 ?_
    refine sm_vv (As := [.int ((sm_sz p1.toNatClampNeg) - 1)]) (rest := []) hP hK hD hE hS hA ⟨hx, hb, hml, hown, hts⟩ hl.1 (c_X6_skip l D H.size t0 σ α ((sm_sz p1.toNatClampNeg) - 1) _ hF) (cwV 1 hts wg_X6_readOperands_X6_skip_122 rfl rfl rfl (by decide +kernel) ⟨Nat.le_of_ble_eq_true rfl, Nat.le_of_ble_eq_true rfl⟩) (va_recv hK hP (ci := 6) (q0 := 6) rfl (sm_gX6 σ α)) rfl rfl (Nat.le_of_ble_eq_true rfl) dX6_readOperands_286 ⟨Nat.zero_le _, Nat.zero_le _⟩ (fun σ27 H locs hF hP hS => ?_)
    exact B289 σ27 hF H locs ls hP hS (lv_sub hl [] rfl)
  by_cases h28 : p1 = 11
  · refine lv_tableIn (tgt := 278) hx hb dX6_readOperands_1 (by rw [h28]; decide) (by rw [h28]; decide) (by rw [h28]; rfl) (by decide) ?_
    replace hF := hF.2.2.2.2.2.2.2.2.2.1 h28
    refine lv_aload_n hx hb dX6_readOperands_278 rfl (lv_at hl 0 rfl) ?_
    refine va_getsN hx hb hE.2.1 hS hown (va_Nw.use rfl (hE.1 (.fieldLinkNest "SteadyMachine$Reader" 125 "SteadyMachine" "SIZE" "[I" "SteadyMachine") (by decide +kernel))) (fun _ h9 => h9) dX6_readOperands_279 ?_
    refine lv_iload_n hx hb dX6_readOperands_282 rfl (lv_at hl 1 rfl) ?_
    obtain ⟨h29, hF⟩ := hF
    refine va_ti hx hb hE.2.2 hS h29 (v := .int (sm_sz p1.toNatClampNeg)) rfl dX6_readOperands_283 ?_
    refine lv_iconst (v := 1) hx hb dX6_readOperands_284 (by decide) ?_
    refine lv_isub hx hb dX6_readOperands_285 ?_
    refine sm_vv (As := [.int ((sm_sz p1.toNatClampNeg) - 1)]) (rest := []) hP hK hD hE hS hA ⟨hx, hb, hml, hown, hts⟩ hl.1 (c_X6_skip l D H.size t0 σ α ((sm_sz p1.toNatClampNeg) - 1) _ hF) (cwV 1 hts wg_X6_readOperands_X6_skip_122 rfl rfl rfl (by decide +kernel) ⟨Nat.le_of_ble_eq_true rfl, Nat.le_of_ble_eq_true rfl⟩) (va_recv hK hP (ci := 6) (q0 := 6) rfl (sm_gX6 σ α)) rfl rfl (Nat.le_of_ble_eq_true rfl) dX6_readOperands_286 ⟨Nat.zero_le _, Nat.zero_le _⟩ (fun σ30 H locs hF hP hS => ?_)
    exact B289 σ30 hF H locs ls hP hS (lv_sub hl [] rfl)
  by_cases h31 : p1 = 12
  · refine lv_tableIn (tgt := 278) hx hb dX6_readOperands_1 (by rw [h31]; decide) (by rw [h31]; decide) (by rw [h31]; rfl) (by decide) ?_
    replace hF := hF.2.2.2.2.2.2.2.2.2.2.1 h31
    refine lv_aload_n hx hb dX6_readOperands_278 rfl (lv_at hl 0 rfl) ?_
    refine va_getsN hx hb hE.2.1 hS hown (va_Nw.use rfl (hE.1 (.fieldLinkNest "SteadyMachine$Reader" 125 "SteadyMachine" "SIZE" "[I" "SteadyMachine") (by decide +kernel))) (fun _ h9 => h9) dX6_readOperands_279 ?_
    refine lv_iload_n hx hb dX6_readOperands_282 rfl (lv_at hl 1 rfl) ?_
    obtain ⟨h32, hF⟩ := hF
    refine va_ti hx hb hE.2.2 hS h32 (v := .int (sm_sz p1.toNatClampNeg)) rfl dX6_readOperands_283 ?_
    refine lv_iconst (v := 1) hx hb dX6_readOperands_284 (by decide) ?_
    refine lv_isub hx hb dX6_readOperands_285 ?_
    refine sm_vv (As := [.int ((sm_sz p1.toNatClampNeg) - 1)]) (rest := []) hP hK hD hE hS hA ⟨hx, hb, hml, hown, hts⟩ hl.1 (c_X6_skip l D H.size t0 σ α ((sm_sz p1.toNatClampNeg) - 1) _ hF) (cwV 1 hts wg_X6_readOperands_X6_skip_122 rfl rfl rfl (by decide +kernel) ⟨Nat.le_of_ble_eq_true rfl, Nat.le_of_ble_eq_true rfl⟩) (va_recv hK hP (ci := 6) (q0 := 6) rfl (sm_gX6 σ α)) rfl rfl (Nat.le_of_ble_eq_true rfl) dX6_readOperands_286 ⟨Nat.zero_le _, Nat.zero_le _⟩ (fun σ33 H locs hF hP hS => ?_)
    exact B289 σ33 hF H locs ls hP hS (lv_sub hl [] rfl)
  by_cases h34 : p1 = 13
  · refine lv_tableIn (tgt := 278) hx hb dX6_readOperands_1 (by rw [h34]; decide) (by rw [h34]; decide) (by rw [h34]; rfl) (by decide) ?_
    replace hF := hF.2.2.2.2.2.2.2.2.2.2.2.1 h34
    refine lv_aload_n hx hb dX6_readOperands_278 rfl (lv_at hl 0 rfl) ?_
    refine va_getsN hx hb hE.2.1 hS hown (va_Nw.use rfl (hE.1 (.fieldLinkNest "SteadyMachine$Reader" 125 "SteadyMachine" "SIZE" "[I" "SteadyMachine") (by decide +kernel))) (fun _ h9 => h9) dX6_readOperands_279 ?_
    refine lv_iload_n hx hb dX6_readOperands_282 rfl (lv_at hl 1 rfl) ?_
    obtain ⟨h35, hF⟩ := hF
    refine va_ti hx hb hE.2.2 hS h35 (v := .int (sm_sz p1.toNatClampNeg)) rfl dX6_readOperands_283 ?_
    refine lv_iconst (v := 1) hx hb dX6_readOperands_284 (by decide) ?_
    refine lv_isub hx hb dX6_readOperands_285 ?_
    refine sm_vv (As := [.int ((sm_sz p1.toNatClampNeg) - 1)]) (rest := []) hP hK hD hE hS hA ⟨hx, hb, hml, hown, hts⟩ hl.1 (c_X6_skip l D H.size t0 σ α ((sm_sz p1.toNatClampNeg) - 1) _ hF) (cwV 1 hts wg_X6_readOperands_X6_skip_122 rfl rfl rfl (by decide +kernel) ⟨Nat.le_of_ble_eq_true rfl, Nat.le_of_ble_eq_true rfl⟩) (va_recv hK hP (ci := 6) (q0 := 6) rfl (sm_gX6 σ α)) rfl rfl (Nat.le_of_ble_eq_true rfl) dX6_readOperands_286 ⟨Nat.zero_le _, Nat.zero_le _⟩ (fun σ36 H locs hF hP hS => ?_)
    exact B289 σ36 hF H locs ls hP hS (lv_sub hl [] rfl)
  by_cases h37 : p1 = 14
  · refine lv_tableIn (tgt := 278) hx hb dX6_readOperands_1 (by rw [h37]; decide) (by rw [h37]; decide) (by rw [h37]; rfl) (by decide) ?_
    replace hF := hF.2.2.2.2.2.2.2.2.2.2.2.2.1 h37
    refine lv_aload_n hx hb dX6_readOperands_278 rfl (lv_at hl 0 rfl) ?_
    refine va_getsN hx hb hE.2.1 hS hown (va_Nw.use rfl (hE.1 (.fieldLinkNest "SteadyMachine$Reader" 125 "SteadyMachine" "SIZE" "[I" "SteadyMachine") (by decide +kernel))) (fun _ h9 => h9) dX6_readOperands_279 ?_
    refine lv_iload_n hx hb dX6_readOperands_282 rfl (lv_at hl 1 rfl) ?_
    obtain ⟨h38, hF⟩ := hF
    refine va_ti hx hb hE.2.2 hS h38 (v := .int (sm_sz p1.toNatClampNeg)) rfl dX6_readOperands_283 ?_
    refine lv_iconst (v := 1) hx hb dX6_readOperands_284 (by decide) ?_
    refine lv_isub hx hb dX6_readOperands_285 ?_
    refine sm_vv (As := [.int ((sm_sz p1.toNatClampNeg) - 1)]) (rest := []) hP hK hD hE hS hA ⟨hx, hb, hml, hown, hts⟩ hl.1 (c_X6_skip l D H.size t0 σ α ((sm_sz p1.toNatClampNeg) - 1) _ hF) (cwV 1 hts wg_X6_readOperands_X6_skip_122 rfl rfl rfl (by decide +kernel) ⟨Nat.le_of_ble_eq_true rfl, Nat.le_of_ble_eq_true rfl⟩) (va_recv hK hP (ci := 6) (q0 := 6) rfl (sm_gX6 σ α)) rfl rfl (Nat.le_of_ble_eq_true rfl) dX6_readOperands_286 ⟨Nat.zero_le _, Nat.zero_le _⟩ (fun σ39 H locs hF hP hS => ?_)
    exact B289 σ39 hF H locs ls hP hS (lv_sub hl [] rfl)
  by_cases h40 : p1 = 15
  · refine lv_tableIn (tgt := 278) hx hb dX6_readOperands_1 (by rw [h40]; decide) (by rw [h40]; decide) (by rw [h40]; rfl) (by decide) ?_
    replace hF := hF.2.2.2.2.2.2.2.2.2.2.2.2.2.1 h40
    refine lv_aload_n hx hb dX6_readOperands_278 rfl (lv_at hl 0 rfl) ?_
    refine va_getsN hx hb hE.2.1 hS hown (va_Nw.use rfl (hE.1 (.fieldLinkNest "SteadyMachine$Reader" 125 "SteadyMachine" "SIZE" "[I" "SteadyMachine") (by decide +kernel))) (fun _ h9 => h9) dX6_readOperands_279 ?_
    refine lv_iload_n hx hb dX6_readOperands_282 rfl (lv_at hl 1 rfl) ?_
    obtain ⟨h41, hF⟩ := hF
    refine va_ti hx hb hE.2.2 hS h41 (v := .int (sm_sz p1.toNatClampNeg)) rfl dX6_readOperands_283 ?_
    refine lv_iconst (v := 1) hx hb dX6_readOperands_284 (by decide) ?_
    refine lv_isub hx hb dX6_readOperands_285 ?_
    refine sm_vv (As := [.int ((sm_sz p1.toNatClampNeg) - 1)]) (rest := []) hP hK hD hE hS hA ⟨hx, hb, hml, hown, hts⟩ hl.1 (c_X6_skip l D H.size t0 σ α ((sm_sz p1.toNatClampNeg) - 1) _ hF) (cwV 1 hts wg_X6_readOperands_X6_skip_122 rfl rfl rfl (by decide +kernel) ⟨Nat.le_of_ble_eq_true rfl, Nat.le_of_ble_eq_true rfl⟩) (va_recv hK hP (ci := 6) (q0 := 6) rfl (sm_gX6 σ α)) rfl rfl (Nat.le_of_ble_eq_true rfl) dX6_readOperands_286 ⟨Nat.zero_le _, Nat.zero_le _⟩ (fun σ42 H locs hF hP hS => ?_)
    exact B289 σ42 hF H locs ls hP hS (lv_sub hl [] rfl)
  by_cases h43 : p1 = 16
  · refine lv_tableIn (tgt := 278) hx hb dX6_readOperands_1 (by rw [h43]; decide) (by rw [h43]; decide) (by rw [h43]; rfl) (by decide) ?_
    replace hF := hF.2.2.2.2.2.2.2.2.2.2.2.2.2.2.1 h43
    refine lv_aload_n hx hb dX6_readOperands_278 rfl (lv_at hl 0 rfl) ?_
    refine va_getsN hx hb hE.2.1 hS hown (va_Nw.use rfl (hE.1 (.fieldLinkNest "SteadyMachine$Reader" 125 "SteadyMachine" "SIZE" "[I" "SteadyMachine") (by decide +kernel))) (fun _ h9 => h9) dX6_readOperands_279 ?_
    refine lv_iload_n hx hb dX6_readOperands_282 rfl (lv_at hl 1 rfl) ?_
    obtain ⟨h44, hF⟩ := hF
    refine va_ti hx hb hE.2.2 hS h44 (v := .int (sm_sz p1.toNatClampNeg)) rfl dX6_readOperands_283 ?_
    refine lv_iconst (v := 1) hx hb dX6_readOperands_284 (by decide) ?_
    refine lv_isub hx hb dX6_readOperands_285 ?_
    refine sm_vv (As := [.int ((sm_sz p1.toNatClampNeg) - 1)]) (rest := []) hP hK hD hE hS hA ⟨hx, hb, hml, hown, hts⟩ hl.1 (c_X6_skip l D H.size t0 σ α ((sm_sz p1.toNatClampNeg) - 1) _ hF) (cwV 1 hts wg_X6_readOperands_X6_skip_122 rfl rfl rfl (by decide +kernel) ⟨Nat.le_of_ble_eq_true rfl, Nat.le_of_ble_eq_true rfl⟩) (va_recv hK hP (ci := 6) (q0 := 6) rfl (sm_gX6 σ α)) rfl rfl (Nat.le_of_ble_eq_true rfl) dX6_readOperands_286 ⟨Nat.zero_le _, Nat.zero_le _⟩ (fun σ45 H locs hF hP hS => ?_)
    exact B289 σ45 hF H locs ls hP hS (lv_sub hl [] rfl)
  by_cases h46 : p1 = 17
  · refine lv_tableIn (tgt := 278) hx hb dX6_readOperands_1 (by rw [h46]; decide) (by rw [h46]; decide) (by rw [h46]; rfl) (by decide) ?_
    replace hF := hF.2.2.2.2.2.2.2.2.2.2.2.2.2.2.2.1 h46
    refine lv_aload_n hx hb dX6_readOperands_278 rfl (lv_at hl 0 rfl) ?_
    refine va_getsN hx hb hE.2.1 hS hown (va_Nw.use rfl (hE.1 (.fieldLinkNest "SteadyMachine$Reader" 125 "SteadyMachine" "SIZE" "[I" "SteadyMachine") (by decide +kernel))) (fun _ h9 => h9) dX6_readOperands_279 ?_
    refine lv_iload_n hx hb dX6_readOperands_282 rfl (lv_at hl 1 rfl) ?_
    obtain ⟨h47, hF⟩ := hF
    refine va_ti hx hb hE.2.2 hS h47 (v := .int (sm_sz p1.toNatClampNeg)) rfl dX6_readOperands_283 ?_
    refine lv_iconst (v := 1) hx hb dX6_readOperands_284 (by decide) ?_
    refine lv_isub hx hb dX6_readOperands_285 ?_
    refine sm_vv (As := [.int ((sm_sz p1.toNatClampNeg) - 1)]) (rest := []) hP hK hD hE hS hA ⟨hx, hb, hml, hown, hts⟩ hl.1 (c_X6_skip l D H.size t0 σ α ((sm_sz p1.toNatClampNeg) - 1) _ hF) (cwV 1 hts wg_X6_readOperands_X6_skip_122 rfl rfl rfl (by decide +kernel) ⟨Nat.le_of_ble_eq_true rfl, Nat.le_of_ble_eq_true rfl⟩) (va_recv hK hP (ci := 6) (q0 := 6) rfl (sm_gX6 σ α)) rfl rfl (Nat.le_of_ble_eq_true rfl) dX6_readOperands_286 ⟨Nat.zero_le _, Nat.zero_le _⟩ (fun σ48 H locs hF hP hS => ?_)
    exact B289 σ48 hF H locs ls hP hS (lv_sub hl [] rfl)
  by_cases h49 : p1 = 18
  · refine lv_tableIn (tgt := 278) hx hb dX6_readOperands_1 (by rw [h49]; decide) (by rw [h49]; decide) (by rw [h49]; rfl) (by decide) ?_
    replace hF := hF.2.2.2.2.2.2.2.2.2.2.2.2.2.2.2.2.1 h49
    refine lv_aload_n hx hb dX6_readOperands_278 rfl (lv_at hl 0 rfl) ?_
    refine va_getsN hx hb hE.2.1 hS hown (va_Nw.use rfl (hE.1 (.fieldLinkNest "SteadyMachine$Reader" 125 "SteadyMachine" "SIZE" "[I" "SteadyMachine") (by decide +kernel))) (fun _ h9 => h9) dX6_readOperands_279 ?_
    refine lv_iload_n hx hb dX6_readOperands_282 rfl (lv_at hl 1 rfl) ?_
    obtain ⟨h50, hF⟩ := hF
    refine va_ti hx hb hE.2.2 hS h50 (v := .int (sm_sz p1.toNatClampNeg)) rfl dX6_readOperands_283 ?_
    refine lv_iconst (v := 1) hx hb dX6_readOperands_284 (by decide) ?_
    refine lv_isub hx hb dX6_readOperands_285 ?_
    refine sm_vv (As := [.int ((sm_sz p1.toNatClampNeg) - 1)]) (rest := []) hP hK hD hE hS hA ⟨hx, hb, hml, hown, hts⟩ hl.1 (c_X6_skip l D H.size t0 σ α ((sm_sz p1.toNatClampNeg) - 1) _ hF) (cwV 1 hts wg_X6_readOperands_X6_skip_122 rfl rfl rfl (by decide +kernel) ⟨Nat.le_of_ble_eq_true rfl, Nat.le_of_ble_eq_true rfl⟩) (va_recv hK hP (ci := 6) (q0 := 6) rfl (sm_gX6 σ α)) rfl rfl (Nat.le_of_ble_eq_true rfl) dX6_readOperands_286 ⟨Nat.zero_le _, Nat.zero_le _⟩ (fun σ51 H locs hF hP hS => ?_)
    exact B289 σ51 hF H locs ls hP hS (lv_sub hl [] rfl)
  by_cases h52 : p1 = 19
  · refine lv_tableIn (tgt := 169) hx hb dX6_readOperands_1 (by rw [h52]; decide) (by rw [h52]; decide) (by rw [h52]; rfl) (by decide) ?_
    replace hF := hF.2.2.2.2.2.2.2.2.2.2.2.2.2.2.2.2.2.1 h52
    refine lv_aload_n hx hb dX6_readOperands_169 rfl (lv_at hl 0 rfl) ?_
    refine lv_iconst (v := 0) hx hb dX6_readOperands_170 (by decide) ?_
    refine lv_iconst (v := 5) hx hb dX6_readOperands_171 (by decide) ?_
    refine lv_iconst (v := -1) hx hb dX6_readOperands_172 (by decide) ?_
    refine sm_vi (As := [.int 0, .int 5, .int (-1)]) (rest := []) hP hK hD hE hS hA ⟨hx, hb, hml, hown, hts⟩ hl.1 (c_X6_number l D H.size t0 σ α 0 5 (-1) _ hF) (cwV 3 hts wg_X6_readOperands_X6_number_34 rfl rfl rfl (by decide +kernel) ⟨Nat.le_of_ble_eq_true rfl, Nat.le_of_ble_eq_true rfl⟩) (va_recv hK hP (ci := 6) (q0 := 6) rfl (sm_gX6 σ α)) rfl rfl (Nat.le_of_ble_eq_true rfl) dX6_readOperands_173 ⟨Nat.zero_le _, Nat.zero_le _⟩ (fun r54 σ53 H locs hF hP hS => ?_)
    refine lv_pop hx hb dX6_readOperands_176 rfl ?_
    refine lv_aload_n hx hb dX6_readOperands_177 rfl (lv_at hl 0 rfl) ?_
    refine lv_iconst (v := 2) hx hb dX6_readOperands_178 (by decide) ?_
    refine sm_vv (As := [.int 2]) (rest := []) hP hK hD hE hS hA ⟨hx, hb, hml, hown, hts⟩ hl.1 (c_X6_skip l D H.size t0 σ53 α 2 _ hF) (cwV 1 hts wg_X6_readOperands_X6_skip_122 rfl rfl rfl (by decide +kernel) ⟨Nat.le_of_ble_eq_true rfl, Nat.le_of_ble_eq_true rfl⟩) (va_recv hK hP (ci := 6) (q0 := 6) rfl (sm_gX6 σ53 α)) rfl rfl (Nat.le_of_ble_eq_true rfl) dX6_readOperands_179 ⟨Nat.zero_le _, Nat.zero_le _⟩ (fun σ55 H locs hF hP hS => ?_)
    refine lv_goto (tgt := 289) hx hb dX6_readOperands_182 (by decide) ?_
    exact B289 σ55 hF H locs ls hP hS (lv_sub hl [] rfl)
  by_cases h56 : p1 = 20
  · refine lv_tableIn (tgt := 169) hx hb dX6_readOperands_1 (by rw [h56]; decide) (by rw [h56]; decide) (by rw [h56]; rfl) (by decide) ?_
    replace hF := hF.2.2.2.2.2.2.2.2.2.2.2.2.2.2.2.2.2.2.1 h56
    refine lv_aload_n hx hb dX6_readOperands_169 rfl (lv_at hl 0 rfl) ?_
    refine lv_iconst (v := 0) hx hb dX6_readOperands_170 (by decide) ?_
    refine lv_iconst (v := 5) hx hb dX6_readOperands_171 (by decide) ?_
    refine lv_iconst (v := -1) hx hb dX6_readOperands_172 (by decide) ?_
    refine sm_vi (As := [.int 0, .int 5, .int (-1)]) (rest := []) hP hK hD hE hS hA ⟨hx, hb, hml, hown, hts⟩ hl.1 (c_X6_number l D H.size t0 σ α 0 5 (-1) _ hF) (cwV 3 hts wg_X6_readOperands_X6_number_34 rfl rfl rfl (by decide +kernel) ⟨Nat.le_of_ble_eq_true rfl, Nat.le_of_ble_eq_true rfl⟩) (va_recv hK hP (ci := 6) (q0 := 6) rfl (sm_gX6 σ α)) rfl rfl (Nat.le_of_ble_eq_true rfl) dX6_readOperands_173 ⟨Nat.zero_le _, Nat.zero_le _⟩ (fun r58 σ57 H locs hF hP hS => ?_)
    refine lv_pop hx hb dX6_readOperands_176 rfl ?_
    refine lv_aload_n hx hb dX6_readOperands_177 rfl (lv_at hl 0 rfl) ?_
    refine lv_iconst (v := 2) hx hb dX6_readOperands_178 (by decide) ?_
    refine sm_vv (As := [.int 2]) (rest := []) hP hK hD hE hS hA ⟨hx, hb, hml, hown, hts⟩ hl.1 (c_X6_skip l D H.size t0 σ57 α 2 _ hF) (cwV 1 hts wg_X6_readOperands_X6_skip_122 rfl rfl rfl (by decide +kernel) ⟨Nat.le_of_ble_eq_true rfl, Nat.le_of_ble_eq_true rfl⟩) (va_recv hK hP (ci := 6) (q0 := 6) rfl (sm_gX6 σ57 α)) rfl rfl (Nat.le_of_ble_eq_true rfl) dX6_readOperands_179 ⟨Nat.zero_le _, Nat.zero_le _⟩ (fun σ59 H locs hF hP hS => ?_)
    refine lv_goto (tgt := 289) hx hb dX6_readOperands_182 (by decide) ?_
    exact B289 σ59 hF H locs ls hP hS (lv_sub hl [] rfl)
  by_cases h60 : p1 = 21
  · refine lv_tableIn (tgt := 278) hx hb dX6_readOperands_1 (by rw [h60]; decide) (by rw [h60]; decide) (by rw [h60]; rfl) (by decide) ?_
    replace hF := hF.2.2.2.2.2.2.2.2.2.2.2.2.2.2.2.2.2.2.2.1 h60
    refine lv_aload_n hx hb dX6_readOperands_278 rfl (lv_at hl 0 rfl) ?_
    refine va_getsN hx hb hE.2.1 hS hown (va_Nw.use rfl (hE.1 (.fieldLinkNest "SteadyMachine$Reader" 125 "SteadyMachine" "SIZE" "[I" "SteadyMachine") (by decide +kernel))) (fun _ h9 => h9) dX6_readOperands_279 ?_
    refine lv_iload_n hx hb dX6_readOperands_282 rfl (lv_at hl 1 rfl) ?_
    obtain ⟨h61, hF⟩ := hF
    refine va_ti hx hb hE.2.2 hS h61 (v := .int (sm_sz p1.toNatClampNeg)) rfl dX6_readOperands_283 ?_
    refine lv_iconst (v := 1) hx hb dX6_readOperands_284 (by decide) ?_
    refine lv_isub hx hb dX6_readOperands_285 ?_
    refine sm_vv (As := [.int ((sm_sz p1.toNatClampNeg) - 1)]) (rest := []) hP hK hD hE hS hA ⟨hx, hb, hml, hown, hts⟩ hl.1 (c_X6_skip l D H.size t0 σ α ((sm_sz p1.toNatClampNeg) - 1) _ hF) (cwV 1 hts wg_X6_readOperands_X6_skip_122 rfl rfl rfl (by decide +kernel) ⟨Nat.le_of_ble_eq_true rfl, Nat.le_of_ble_eq_true rfl⟩) (va_recv hK hP (ci := 6) (q0 := 6) rfl (sm_gX6 σ α)) rfl rfl (Nat.le_of_ble_eq_true rfl) dX6_readOperands_286 ⟨Nat.zero_le _, Nat.zero_le _⟩ (fun σ62 H locs hF hP hS => ?_)
    exact B289 σ62 hF H locs ls hP hS (lv_sub hl [] rfl)
  by_cases h63 : p1 = 22
  · refine lv_tableIn (tgt := 278) hx hb dX6_readOperands_1 (by rw [h63]; decide) (by rw [h63]; decide) (by rw [h63]; rfl) (by decide) ?_
    replace hF := hF.2.2.2.2.2.2.2.2.2.2.2.2.2.2.2.2.2.2.2.2.1 h63
    refine lv_aload_n hx hb dX6_readOperands_278 rfl (lv_at hl 0 rfl) ?_
    refine va_getsN hx hb hE.2.1 hS hown (va_Nw.use rfl (hE.1 (.fieldLinkNest "SteadyMachine$Reader" 125 "SteadyMachine" "SIZE" "[I" "SteadyMachine") (by decide +kernel))) (fun _ h9 => h9) dX6_readOperands_279 ?_
    refine lv_iload_n hx hb dX6_readOperands_282 rfl (lv_at hl 1 rfl) ?_
    obtain ⟨h64, hF⟩ := hF
    refine va_ti hx hb hE.2.2 hS h64 (v := .int (sm_sz p1.toNatClampNeg)) rfl dX6_readOperands_283 ?_
    refine lv_iconst (v := 1) hx hb dX6_readOperands_284 (by decide) ?_
    refine lv_isub hx hb dX6_readOperands_285 ?_
    refine sm_vv (As := [.int ((sm_sz p1.toNatClampNeg) - 1)]) (rest := []) hP hK hD hE hS hA ⟨hx, hb, hml, hown, hts⟩ hl.1 (c_X6_skip l D H.size t0 σ α ((sm_sz p1.toNatClampNeg) - 1) _ hF) (cwV 1 hts wg_X6_readOperands_X6_skip_122 rfl rfl rfl (by decide +kernel) ⟨Nat.le_of_ble_eq_true rfl, Nat.le_of_ble_eq_true rfl⟩) (va_recv hK hP (ci := 6) (q0 := 6) rfl (sm_gX6 σ α)) rfl rfl (Nat.le_of_ble_eq_true rfl) dX6_readOperands_286 ⟨Nat.zero_le _, Nat.zero_le _⟩ (fun σ65 H locs hF hP hS => ?_)
    exact B289 σ65 hF H locs ls hP hS (lv_sub hl [] rfl)
  by_cases h66 : p1 = 23
  · refine lv_tableIn (tgt := 278) hx hb dX6_readOperands_1 (by rw [h66]; decide) (by rw [h66]; decide) (by rw [h66]; rfl) (by decide) ?_
    replace hF := hF.2.2.2.2.2.2.2.2.2.2.2.2.2.2.2.2.2.2.2.2.2.1 h66
    refine lv_aload_n hx hb dX6_readOperands_278 rfl (lv_at hl 0 rfl) ?_
    refine va_getsN hx hb hE.2.1 hS hown (va_Nw.use rfl (hE.1 (.fieldLinkNest "SteadyMachine$Reader" 125 "SteadyMachine" "SIZE" "[I" "SteadyMachine") (by decide +kernel))) (fun _ h9 => h9) dX6_readOperands_279 ?_
    refine lv_iload_n hx hb dX6_readOperands_282 rfl (lv_at hl 1 rfl) ?_
    obtain ⟨h67, hF⟩ := hF
    refine va_ti hx hb hE.2.2 hS h67 (v := .int (sm_sz p1.toNatClampNeg)) rfl dX6_readOperands_283 ?_
    refine lv_iconst (v := 1) hx hb dX6_readOperands_284 (by decide) ?_
    refine lv_isub hx hb dX6_readOperands_285 ?_
    refine sm_vv (As := [.int ((sm_sz p1.toNatClampNeg) - 1)]) (rest := []) hP hK hD hE hS hA ⟨hx, hb, hml, hown, hts⟩ hl.1 (c_X6_skip l D H.size t0 σ α ((sm_sz p1.toNatClampNeg) - 1) _ hF) (cwV 1 hts wg_X6_readOperands_X6_skip_122 rfl rfl rfl (by decide +kernel) ⟨Nat.le_of_ble_eq_true rfl, Nat.le_of_ble_eq_true rfl⟩) (va_recv hK hP (ci := 6) (q0 := 6) rfl (sm_gX6 σ α)) rfl rfl (Nat.le_of_ble_eq_true rfl) dX6_readOperands_286 ⟨Nat.zero_le _, Nat.zero_le _⟩ (fun σ68 H locs hF hP hS => ?_)
    exact B289 σ68 hF H locs ls hP hS (lv_sub hl [] rfl)
  by_cases h69 : p1 = 24
  · refine lv_tableIn (tgt := 278) hx hb dX6_readOperands_1 (by rw [h69]; decide) (by rw [h69]; decide) (by rw [h69]; rfl) (by decide) ?_
    replace hF := hF.2.2.2.2.2.2.2.2.2.2.2.2.2.2.2.2.2.2.2.2.2.2.1 h69
    refine lv_aload_n hx hb dX6_readOperands_278 rfl (lv_at hl 0 rfl) ?_
    refine va_getsN hx hb hE.2.1 hS hown (va_Nw.use rfl (hE.1 (.fieldLinkNest "SteadyMachine$Reader" 125 "SteadyMachine" "SIZE" "[I" "SteadyMachine") (by decide +kernel))) (fun _ h9 => h9) dX6_readOperands_279 ?_
    refine lv_iload_n hx hb dX6_readOperands_282 rfl (lv_at hl 1 rfl) ?_
    obtain ⟨h70, hF⟩ := hF
    refine va_ti hx hb hE.2.2 hS h70 (v := .int (sm_sz p1.toNatClampNeg)) rfl dX6_readOperands_283 ?_
    refine lv_iconst (v := 1) hx hb dX6_readOperands_284 (by decide) ?_
    refine lv_isub hx hb dX6_readOperands_285 ?_
    refine sm_vv (As := [.int ((sm_sz p1.toNatClampNeg) - 1)]) (rest := []) hP hK hD hE hS hA ⟨hx, hb, hml, hown, hts⟩ hl.1 (c_X6_skip l D H.size t0 σ α ((sm_sz p1.toNatClampNeg) - 1) _ hF) (cwV 1 hts wg_X6_readOperands_X6_skip_122 rfl rfl rfl (by decide +kernel) ⟨Nat.le_of_ble_eq_true rfl, Nat.le_of_ble_eq_true rfl⟩) (va_recv hK hP (ci := 6) (q0 := 6) rfl (sm_gX6 σ α)) rfl rfl (Nat.le_of_ble_eq_true rfl) dX6_readOperands_286 ⟨Nat.zero_le _, Nat.zero_le _⟩ (fun σ71 H locs hF hP hS => ?_)
    exact B289 σ71 hF H locs ls hP hS (lv_sub hl [] rfl)
  by_cases h72 : p1 = 25
  · refine lv_tableIn (tgt := 278) hx hb dX6_readOperands_1 (by rw [h72]; decide) (by rw [h72]; decide) (by rw [h72]; rfl) (by decide) ?_
    replace hF := hF.2.2.2.2.2.2.2.2.2.2.2.2.2.2.2.2.2.2.2.2.2.2.2.1 h72
    refine lv_aload_n hx hb dX6_readOperands_278 rfl (lv_at hl 0 rfl) ?_
    refine va_getsN hx hb hE.2.1 hS hown (va_Nw.use rfl (hE.1 (.fieldLinkNest "SteadyMachine$Reader" 125 "SteadyMachine" "SIZE" "[I" "SteadyMachine") (by decide +kernel))) (fun _ h9 => h9) dX6_readOperands_279 ?_
    refine lv_iload_n hx hb dX6_readOperands_282 rfl (lv_at hl 1 rfl) ?_
    obtain ⟨h73, hF⟩ := hF
    refine va_ti hx hb hE.2.2 hS h73 (v := .int (sm_sz p1.toNatClampNeg)) rfl dX6_readOperands_283 ?_
    refine lv_iconst (v := 1) hx hb dX6_readOperands_284 (by decide) ?_
    refine lv_isub hx hb dX6_readOperands_285 ?_
    refine sm_vv (As := [.int ((sm_sz p1.toNatClampNeg) - 1)]) (rest := []) hP hK hD hE hS hA ⟨hx, hb, hml, hown, hts⟩ hl.1 (c_X6_skip l D H.size t0 σ α ((sm_sz p1.toNatClampNeg) - 1) _ hF) (cwV 1 hts wg_X6_readOperands_X6_skip_122 rfl rfl rfl (by decide +kernel) ⟨Nat.le_of_ble_eq_true rfl, Nat.le_of_ble_eq_true rfl⟩) (va_recv hK hP (ci := 6) (q0 := 6) rfl (sm_gX6 σ α)) rfl rfl (Nat.le_of_ble_eq_true rfl) dX6_readOperands_286 ⟨Nat.zero_le _, Nat.zero_le _⟩ (fun σ74 H locs hF hP hS => ?_)
    exact B289 σ74 hF H locs ls hP hS (lv_sub hl [] rfl)
  by_cases h75 : p1 = 26
  · refine lv_tableIn (tgt := 185) hx hb dX6_readOperands_1 (by rw [h75]; decide) (by rw [h75]; decide) (by rw [h75]; rfl) (by decide) ?_
    replace hF := hF.2.2.2.2.2.2.2.2.2.2.2.2.2.2.2.2.2.2.2.2.2.2.2.2.1 h75
    refine lv_aload_n hx hb dX6_readOperands_185 rfl (lv_at hl 0 rfl) ?_
    refine lv_iconst (v := 0) hx hb dX6_readOperands_186 (by decide) ?_
    refine lv_aload_n hx hb dX6_readOperands_187 rfl (lv_at hl 0 rfl) ?_
    refine va_get (D := D) (ci := 6) (v := .ref (α.1 0)) (C := RX6) (T := TX6) (N := 5) hx hb hts in_X6 hown hK hP 6 (sm_gX6 σ α) rfl 1 (by decide) k_0 (fun _ h9 => h9) rfl dX6_readOperands_188 ?_
    refine va_get (D := D) (ci := 0) (v := .int (σ.1 0)) (C := RX0) (T := TX0) (N := 7) hx hb hts in_X0 hown hK hP 0 (sm_gX0 σ α) rfl 0 (by decide) k_1 (fun _ h9 => h9) rfl dX6_readOperands_191 ?_
    refine lv_iconst (v := 1) hx hb dX6_readOperands_194 (by decide) ?_
    refine lv_isub hx hb dX6_readOperands_195 ?_
    refine lv_iconst (v := -1) hx hb dX6_readOperands_196 (by decide) ?_
    refine sm_vi (As := [.int 0, .int ((σ.1 0) - 1), .int (-1)]) (rest := []) hP hK hD hE hS hA ⟨hx, hb, hml, hown, hts⟩ hl.1 (c_X6_number l D H.size t0 σ α 0 ((σ.1 0) - 1) (-1) _ hF) (cwV 3 hts wg_X6_readOperands_X6_number_34 rfl rfl rfl (by decide +kernel) ⟨Nat.le_of_ble_eq_true rfl, Nat.le_of_ble_eq_true rfl⟩) (va_recv hK hP (ci := 6) (q0 := 6) rfl (sm_gX6 σ α)) rfl rfl (Nat.le_of_ble_eq_true rfl) dX6_readOperands_197 ⟨Nat.zero_le _, Nat.zero_le _⟩ (fun r77 σ76 H locs hF hP hS => ?_)
    refine lv_pop hx hb dX6_readOperands_200 rfl ?_
    refine lv_goto (tgt := 289) hx hb dX6_readOperands_201 (by decide) ?_
    exact B289 σ76 hF H locs ls hP hS (lv_sub hl [] rfl)
  by_cases h78 : p1 = 27
  · refine lv_tableIn (tgt := 204) hx hb dX6_readOperands_1 (by rw [h78]; decide) (by rw [h78]; decide) (by rw [h78]; rfl) (by decide) ?_
    replace hF := hF.2.2.2.2.2.2.2.2.2.2.2.2.2.2.2.2.2.2.2.2.2.2.2.2.2.1 h78
    refine lv_aload_n hx hb dX6_readOperands_204 rfl (lv_at hl 0 rfl) ?_
    refine lv_iconst (v := 0) hx hb dX6_readOperands_205 (by decide) ?_
    refine lv_aload_n hx hb dX6_readOperands_206 rfl (lv_at hl 0 rfl) ?_
    refine va_get (D := D) (ci := 6) (v := .ref (α.1 0)) (C := RX6) (T := TX6) (N := 5) hx hb hts in_X6 hown hK hP 6 (sm_gX6 σ α) rfl 1 (by decide) k_0 (fun _ h9 => h9) rfl dX6_readOperands_207 ?_
    refine va_get (D := D) (ci := 0) (v := .ref (α.1 12)) (C := RX0) (T := TX0) (N := 7) hx hb hts in_X0 hown hK hP 0 (sm_gX0 σ α) rfl 2 (by decide) k_2 (fun _ h9 => h9) rfl dX6_readOperands_210 ?_
    refine lv_aload_n hx hb dX6_readOperands_213 rfl (lv_at hl 0 rfl) ?_
    refine lv_iconst (v := 0) hx hb dX6_readOperands_214 (by decide) ?_
    refine lv_aload_n hx hb dX6_readOperands_215 rfl (lv_at hl 0 rfl) ?_
    refine va_get (D := D) (ci := 6) (v := .ref (α.1 0)) (C := RX6) (T := TX6) (N := 5) hx hb hts in_X6 hown hK hP 6 (sm_gX6 σ α) rfl 1 (by decide) k_0 (fun _ h9 => h9) rfl dX6_readOperands_216 ?_
    refine va_get (D := D) (ci := 0) (v := .int (σ.1 0)) (C := RX0) (T := TX0) (N := 7) hx hb hts in_X0 hown hK hP 0 (sm_gX0 σ α) rfl 0 (by decide) k_1 (fun _ h9 => h9) rfl dX6_readOperands_219 ?_
    refine lv_iconst (v := 1) hx hb dX6_readOperands_222 (by decide) ?_
    refine lv_isub hx hb dX6_readOperands_223 ?_
    refine lv_iconst (v := -1) hx hb dX6_readOperands_224 (by decide) ?_
    refine sm_vi (As := [.int 0, .int ((σ.1 0) - 1), .int (-1)]) (rest := [.ref (α.1 12), .int 0, .ref (α.1 6)]) hP hK hD hE hS hA ⟨hx, hb, hml, hown, hts⟩ hl.1 (c_X6_number l D H.size t0 σ α 0 ((σ.1 0) - 1) (-1) _ hF) (cwV 3 hts wg_X6_readOperands_X6_number_34 rfl rfl rfl (by decide +kernel) ⟨Nat.le_of_ble_eq_true rfl, Nat.le_of_ble_eq_true rfl⟩) (va_recv hK hP (ci := 6) (q0 := 6) rfl (sm_gX6 σ α)) rfl rfl (Nat.le_of_ble_eq_true rfl) dX6_readOperands_225 ⟨Nat.zero_le _, Nat.zero_le _⟩ (fun r80 σ79 H locs hF hP hS => ?_)
    obtain ⟨h81, hF⟩ := hF
    refine va_iald (n := (σ79.2.2.1 12)) (f := (σ79.2.2.2.1 12)) hx hb hK hP 12 1 (sm_aX12 σ79 α) (sm_yX12 α) h81 dX6_readOperands_228 ?_
    refine lv_iconst (v := 1) hx hb dX6_readOperands_229 (by decide) ?_
    refine lv_isub hx hb dX6_readOperands_230 ?_
    refine lv_iconst (v := -1) hx hb dX6_readOperands_231 (by decide) ?_
    refine sm_vi (As := [.int 0, .int (((σ79.2.2.2.1 12) r80.toNatClampNeg) - 1), .int (-1)]) (rest := []) hP hK hD hE hS hA ⟨hx, hb, hml, hown, hts⟩ hl.1 (c_X6_number l D H.size t0 σ79 α 0 (((σ79.2.2.2.1 12) r80.toNatClampNeg) - 1) (-1) _ hF) (cwV 3 hts wg_X6_readOperands_X6_number_34 rfl rfl rfl (by decide +kernel) ⟨Nat.le_of_ble_eq_true rfl, Nat.le_of_ble_eq_true rfl⟩) (va_recv hK hP (ci := 6) (q0 := 6) rfl (sm_gX6 σ79 α)) rfl rfl (Nat.le_of_ble_eq_true rfl) dX6_readOperands_232 ⟨Nat.zero_le _, Nat.zero_le _⟩ (fun r83 σ82 H locs hF hP hS => ?_)
    refine lv_pop hx hb dX6_readOperands_235 rfl ?_
    refine lv_goto (tgt := 289) hx hb dX6_readOperands_236 (by decide) ?_
    exact B289 σ82 hF H locs ls hP hS (lv_sub hl [] rfl)
  by_cases h84 : p1 = 28
  · refine lv_tableIn (tgt := 204) hx hb dX6_readOperands_1 (by rw [h84]; decide) (by rw [h84]; decide) (by rw [h84]; rfl) (by decide) ?_
    replace hF := hF.2.2.2.2.2.2.2.2.2.2.2.2.2.2.2.2.2.2.2.2.2.2.2.2.2.2.1 h84
    refine lv_aload_n hx hb dX6_readOperands_204 rfl (lv_at hl 0 rfl) ?_
    refine lv_iconst (v := 0) hx hb dX6_readOperands_205 (by decide) ?_
    refine lv_aload_n hx hb dX6_readOperands_206 rfl (lv_at hl 0 rfl) ?_
    refine va_get (D := D) (ci := 6) (v := .ref (α.1 0)) (C := RX6) (T := TX6) (N := 5) hx hb hts in_X6 hown hK hP 6 (sm_gX6 σ α) rfl 1 (by decide) k_0 (fun _ h9 => h9) rfl dX6_readOperands_207 ?_
    refine va_get (D := D) (ci := 0) (v := .ref (α.1 12)) (C := RX0) (T := TX0) (N := 7) hx hb hts in_X0 hown hK hP 0 (sm_gX0 σ α) rfl 2 (by decide) k_2 (fun _ h9 => h9) rfl dX6_readOperands_210 ?_
    refine lv_aload_n hx hb dX6_readOperands_213 rfl (lv_at hl 0 rfl) ?_
    refine lv_iconst (v := 0) hx hb dX6_readOperands_214 (by decide) ?_
    refine lv_aload_n hx hb dX6_readOperands_215 rfl (lv_at hl 0 rfl) ?_
    refine va_get (D := D) (ci := 6) (v := .ref (α.1 0)) (C := RX6) (T := TX6) (N := 5) hx hb hts in_X6 hown hK hP 6 (sm_gX6 σ α) rfl 1 (by decide) k_0 (fun _ h9 => h9) rfl dX6_readOperands_216 ?_
    refine va_get (D := D) (ci := 0) (v := .int (σ.1 0)) (C := RX0) (T := TX0) (N := 7) hx hb hts in_X0 hown hK hP 0 (sm_gX0 σ α) rfl 0 (by decide) k_1 (fun _ h9 => h9) rfl dX6_readOperands_219 ?_
    refine lv_iconst (v := 1) hx hb dX6_readOperands_222 (by decide) ?_
    refine lv_isub hx hb dX6_readOperands_223 ?_
    refine lv_iconst (v := -1) hx hb dX6_readOperands_224 (by decide) ?_
    refine sm_vi (As := [.int 0, .int ((σ.1 0) - 1), .int (-1)]) (rest := [.ref (α.1 12), .int 0, .ref (α.1 6)]) hP hK hD hE hS hA ⟨hx, hb, hml, hown, hts⟩ hl.1 (c_X6_number l D H.size t0 σ α 0 ((σ.1 0) - 1) (-1) _ hF) (cwV 3 hts wg_X6_readOperands_X6_number_34 rfl rfl rfl (by decide +kernel) ⟨Nat.le_of_ble_eq_true rfl, Nat.le_of_ble_eq_true rfl⟩) (va_recv hK hP (ci := 6) (q0 := 6) rfl (sm_gX6 σ α)) rfl rfl (Nat.le_of_ble_eq_true rfl) dX6_readOperands_225 ⟨Nat.zero_le _, Nat.zero_le _⟩ (fun r86 σ85 H locs hF hP hS => ?_)
    obtain ⟨h87, hF⟩ := hF
    refine va_iald (n := (σ85.2.2.1 12)) (f := (σ85.2.2.2.1 12)) hx hb hK hP 12 1 (sm_aX12 σ85 α) (sm_yX12 α) h87 dX6_readOperands_228 ?_
    refine lv_iconst (v := 1) hx hb dX6_readOperands_229 (by decide) ?_
    refine lv_isub hx hb dX6_readOperands_230 ?_
    refine lv_iconst (v := -1) hx hb dX6_readOperands_231 (by decide) ?_
    refine sm_vi (As := [.int 0, .int (((σ85.2.2.2.1 12) r86.toNatClampNeg) - 1), .int (-1)]) (rest := []) hP hK hD hE hS hA ⟨hx, hb, hml, hown, hts⟩ hl.1 (c_X6_number l D H.size t0 σ85 α 0 (((σ85.2.2.2.1 12) r86.toNatClampNeg) - 1) (-1) _ hF) (cwV 3 hts wg_X6_readOperands_X6_number_34 rfl rfl rfl (by decide +kernel) ⟨Nat.le_of_ble_eq_true rfl, Nat.le_of_ble_eq_true rfl⟩) (va_recv hK hP (ci := 6) (q0 := 6) rfl (sm_gX6 σ85 α)) rfl rfl (Nat.le_of_ble_eq_true rfl) dX6_readOperands_232 ⟨Nat.zero_le _, Nat.zero_le _⟩ (fun r89 σ88 H locs hF hP hS => ?_)
    refine lv_pop hx hb dX6_readOperands_235 rfl ?_
    refine lv_goto (tgt := 289) hx hb dX6_readOperands_236 (by decide) ?_
    exact B289 σ88 hF H locs ls hP hS (lv_sub hl [] rfl)
  by_cases h90 : p1 = 29
  · refine lv_tableIn (tgt := 185) hx hb dX6_readOperands_1 (by rw [h90]; decide) (by rw [h90]; decide) (by rw [h90]; rfl) (by decide) ?_
    replace hF := hF.2.2.2.2.2.2.2.2.2.2.2.2.2.2.2.2.2.2.2.2.2.2.2.2.2.2.2.1 h90
    refine lv_aload_n hx hb dX6_readOperands_185 rfl (lv_at hl 0 rfl) ?_
    refine lv_iconst (v := 0) hx hb dX6_readOperands_186 (by decide) ?_
    refine lv_aload_n hx hb dX6_readOperands_187 rfl (lv_at hl 0 rfl) ?_
    refine va_get (D := D) (ci := 6) (v := .ref (α.1 0)) (C := RX6) (T := TX6) (N := 5) hx hb hts in_X6 hown hK hP 6 (sm_gX6 σ α) rfl 1 (by decide) k_0 (fun _ h9 => h9) rfl dX6_readOperands_188 ?_
    refine va_get (D := D) (ci := 0) (v := .int (σ.1 0)) (C := RX0) (T := TX0) (N := 7) hx hb hts in_X0 hown hK hP 0 (sm_gX0 σ α) rfl 0 (by decide) k_1 (fun _ h9 => h9) rfl dX6_readOperands_191 ?_
    refine lv_iconst (v := 1) hx hb dX6_readOperands_194 (by decide) ?_
    refine lv_isub hx hb dX6_readOperands_195 ?_
    refine lv_iconst (v := -1) hx hb dX6_readOperands_196 (by decide) ?_
    refine sm_vi (As := [.int 0, .int ((σ.1 0) - 1), .int (-1)]) (rest := []) hP hK hD hE hS hA ⟨hx, hb, hml, hown, hts⟩ hl.1 (c_X6_number l D H.size t0 σ α 0 ((σ.1 0) - 1) (-1) _ hF) (cwV 3 hts wg_X6_readOperands_X6_number_34 rfl rfl rfl (by decide +kernel) ⟨Nat.le_of_ble_eq_true rfl, Nat.le_of_ble_eq_true rfl⟩) (va_recv hK hP (ci := 6) (q0 := 6) rfl (sm_gX6 σ α)) rfl rfl (Nat.le_of_ble_eq_true rfl) dX6_readOperands_197 ⟨Nat.zero_le _, Nat.zero_le _⟩ (fun r92 σ91 H locs hF hP hS => ?_)
    refine lv_pop hx hb dX6_readOperands_200 rfl ?_
    refine lv_goto (tgt := 289) hx hb dX6_readOperands_201 (by decide) ?_
    exact B289 σ91 hF H locs ls hP hS (lv_sub hl [] rfl)
  by_cases h93 : p1 = 30
  · refine lv_tableIn (tgt := 185) hx hb dX6_readOperands_1 (by rw [h93]; decide) (by rw [h93]; decide) (by rw [h93]; rfl) (by decide) ?_
    replace hF := hF.2.2.2.2.2.2.2.2.2.2.2.2.2.2.2.2.2.2.2.2.2.2.2.2.2.2.2.2.1 h93
    refine lv_aload_n hx hb dX6_readOperands_185 rfl (lv_at hl 0 rfl) ?_
    refine lv_iconst (v := 0) hx hb dX6_readOperands_186 (by decide) ?_
    refine lv_aload_n hx hb dX6_readOperands_187 rfl (lv_at hl 0 rfl) ?_
    refine va_get (D := D) (ci := 6) (v := .ref (α.1 0)) (C := RX6) (T := TX6) (N := 5) hx hb hts in_X6 hown hK hP 6 (sm_gX6 σ α) rfl 1 (by decide) k_0 (fun _ h9 => h9) rfl dX6_readOperands_188 ?_
    refine va_get (D := D) (ci := 0) (v := .int (σ.1 0)) (C := RX0) (T := TX0) (N := 7) hx hb hts in_X0 hown hK hP 0 (sm_gX0 σ α) rfl 0 (by decide) k_1 (fun _ h9 => h9) rfl dX6_readOperands_191 ?_
    refine lv_iconst (v := 1) hx hb dX6_readOperands_194 (by decide) ?_
    refine lv_isub hx hb dX6_readOperands_195 ?_
    refine lv_iconst (v := -1) hx hb dX6_readOperands_196 (by decide) ?_
    refine sm_vi (As := [.int 0, .int ((σ.1 0) - 1), .int (-1)]) (rest := []) hP hK hD hE hS hA ⟨hx, hb, hml, hown, hts⟩ hl.1 (c_X6_number l D H.size t0 σ α 0 ((σ.1 0) - 1) (-1) _ hF) (cwV 3 hts wg_X6_readOperands_X6_number_34 rfl rfl rfl (by decide +kernel) ⟨Nat.le_of_ble_eq_true rfl, Nat.le_of_ble_eq_true rfl⟩) (va_recv hK hP (ci := 6) (q0 := 6) rfl (sm_gX6 σ α)) rfl rfl (Nat.le_of_ble_eq_true rfl) dX6_readOperands_197 ⟨Nat.zero_le _, Nat.zero_le _⟩ (fun r95 σ94 H locs hF hP hS => ?_)
    refine lv_pop hx hb dX6_readOperands_200 rfl ?_
    refine lv_goto (tgt := 289) hx hb dX6_readOperands_201 (by decide) ?_
    exact B289 σ94 hF H locs ls hP hS (lv_sub hl [] rfl)
  by_cases h96 : p1 = 31
  · refine lv_tableIn (tgt := 239) hx hb dX6_readOperands_1 (by rw [h96]; decide) (by rw [h96]; decide) (by rw [h96]; rfl) (by decide) ?_
    replace hF := hF.2.2.2.2.2.2.2.2.2.2.2.2.2.2.2.2.2.2.2.2.2.2.2.2.2.2.2.2.2.1 h96
    refine lv_aload_n hx hb dX6_readOperands_239 rfl (lv_at hl 0 rfl) ?_
    refine lv_iconst (v := 0) hx hb dX6_readOperands_240 (by decide) ?_
    refine lv_aload_n hx hb dX6_readOperands_241 rfl (lv_at hl 0 rfl) ?_
    refine va_get (D := D) (ci := 6) (v := .ref (α.1 0)) (C := RX6) (T := TX6) (N := 5) hx hb hts in_X6 hown hK hP 6 (sm_gX6 σ α) rfl 1 (by decide) k_0 (fun _ h9 => h9) rfl dX6_readOperands_242 ?_
    refine va_get (D := D) (ci := 0) (v := .int (σ.1 0)) (C := RX0) (T := TX0) (N := 7) hx hb hts in_X0 hown hK hP 0 (sm_gX0 σ α) rfl 0 (by decide) k_1 (fun _ h9 => h9) rfl dX6_readOperands_245 ?_
    refine lv_iconst (v := -1) hx hb dX6_readOperands_248 (by decide) ?_
    refine sm_vi (As := [.int 0, .int (σ.1 0), .int (-1)]) (rest := []) hP hK hD hE hS hA ⟨hx, hb, hml, hown, hts⟩ hl.1 (c_X6_number l D H.size t0 σ α 0 (σ.1 0) (-1) _ hF) (cwV 3 hts wg_X6_readOperands_X6_number_34 rfl rfl rfl (by decide +kernel) ⟨Nat.le_of_ble_eq_true rfl, Nat.le_of_ble_eq_true rfl⟩) (va_recv hK hP (ci := 6) (q0 := 6) rfl (sm_gX6 σ α)) rfl rfl (Nat.le_of_ble_eq_true rfl) dX6_readOperands_249 ⟨Nat.zero_le _, Nat.zero_le _⟩ (fun r98 σ97 H locs hF hP hS => ?_)
    refine lv_pop hx hb dX6_readOperands_252 rfl ?_
    refine lv_goto (tgt := 289) hx hb dX6_readOperands_253 (by decide) ?_
    exact B289 σ97 hF H locs ls hP hS (lv_sub hl [] rfl)
  by_cases h99 : p1 = 32
  · refine lv_tableIn (tgt := 278) hx hb dX6_readOperands_1 (by rw [h99]; decide) (by rw [h99]; decide) (by rw [h99]; rfl) (by decide) ?_
    replace hF := hF.2.2.2.2.2.2.2.2.2.2.2.2.2.2.2.2.2.2.2.2.2.2.2.2.2.2.2.2.2.2.1 h99
    refine lv_aload_n hx hb dX6_readOperands_278 rfl (lv_at hl 0 rfl) ?_
    refine va_getsN hx hb hE.2.1 hS hown (va_Nw.use rfl (hE.1 (.fieldLinkNest "SteadyMachine$Reader" 125 "SteadyMachine" "SIZE" "[I" "SteadyMachine") (by decide +kernel))) (fun _ h9 => h9) dX6_readOperands_279 ?_
    refine lv_iload_n hx hb dX6_readOperands_282 rfl (lv_at hl 1 rfl) ?_
    obtain ⟨h100, hF⟩ := hF
    refine va_ti hx hb hE.2.2 hS h100 (v := .int (sm_sz p1.toNatClampNeg)) rfl dX6_readOperands_283 ?_
    refine lv_iconst (v := 1) hx hb dX6_readOperands_284 (by decide) ?_
    refine lv_isub hx hb dX6_readOperands_285 ?_
    refine sm_vv (As := [.int ((sm_sz p1.toNatClampNeg) - 1)]) (rest := []) hP hK hD hE hS hA ⟨hx, hb, hml, hown, hts⟩ hl.1 (c_X6_skip l D H.size t0 σ α ((sm_sz p1.toNatClampNeg) - 1) _ hF) (cwV 1 hts wg_X6_readOperands_X6_skip_122 rfl rfl rfl (by decide +kernel) ⟨Nat.le_of_ble_eq_true rfl, Nat.le_of_ble_eq_true rfl⟩) (va_recv hK hP (ci := 6) (q0 := 6) rfl (sm_gX6 σ α)) rfl rfl (Nat.le_of_ble_eq_true rfl) dX6_readOperands_286 ⟨Nat.zero_le _, Nat.zero_le _⟩ (fun σ101 H locs hF hP hS => ?_)
    exact B289 σ101 hF H locs ls hP hS (lv_sub hl [] rfl)
  by_cases h102 : p1 = 33
  · refine lv_tableIn (tgt := 278) hx hb dX6_readOperands_1 (by rw [h102]; decide) (by rw [h102]; decide) (by rw [h102]; rfl) (by decide) ?_
    replace hF := hF.2.2.2.2.2.2.2.2.2.2.2.2.2.2.2.2.2.2.2.2.2.2.2.2.2.2.2.2.2.2.2.1 h102
    refine lv_aload_n hx hb dX6_readOperands_278 rfl (lv_at hl 0 rfl) ?_
    refine va_getsN hx hb hE.2.1 hS hown (va_Nw.use rfl (hE.1 (.fieldLinkNest "SteadyMachine$Reader" 125 "SteadyMachine" "SIZE" "[I" "SteadyMachine") (by decide +kernel))) (fun _ h9 => h9) dX6_readOperands_279 ?_
    refine lv_iload_n hx hb dX6_readOperands_282 rfl (lv_at hl 1 rfl) ?_
    obtain ⟨h103, hF⟩ := hF
    refine va_ti hx hb hE.2.2 hS h103 (v := .int (sm_sz p1.toNatClampNeg)) rfl dX6_readOperands_283 ?_
    refine lv_iconst (v := 1) hx hb dX6_readOperands_284 (by decide) ?_
    refine lv_isub hx hb dX6_readOperands_285 ?_
    refine sm_vv (As := [.int ((sm_sz p1.toNatClampNeg) - 1)]) (rest := []) hP hK hD hE hS hA ⟨hx, hb, hml, hown, hts⟩ hl.1 (c_X6_skip l D H.size t0 σ α ((sm_sz p1.toNatClampNeg) - 1) _ hF) (cwV 1 hts wg_X6_readOperands_X6_skip_122 rfl rfl rfl (by decide +kernel) ⟨Nat.le_of_ble_eq_true rfl, Nat.le_of_ble_eq_true rfl⟩) (va_recv hK hP (ci := 6) (q0 := 6) rfl (sm_gX6 σ α)) rfl rfl (Nat.le_of_ble_eq_true rfl) dX6_readOperands_286 ⟨Nat.zero_le _, Nat.zero_le _⟩ (fun σ104 H locs hF hP hS => ?_)
    exact B289 σ104 hF H locs ls hP hS (lv_sub hl [] rfl)
  by_cases h105 : p1 = 34
  · refine lv_tableIn (tgt := 278) hx hb dX6_readOperands_1 (by rw [h105]; decide) (by rw [h105]; decide) (by rw [h105]; rfl) (by decide) ?_
    replace hF := hF.2.2.2.2.2.2.2.2.2.2.2.2.2.2.2.2.2.2.2.2.2.2.2.2.2.2.2.2.2.2.2.2.1 h105
    refine lv_aload_n hx hb dX6_readOperands_278 rfl (lv_at hl 0 rfl) ?_
    refine va_getsN hx hb hE.2.1 hS hown (va_Nw.use rfl (hE.1 (.fieldLinkNest "SteadyMachine$Reader" 125 "SteadyMachine" "SIZE" "[I" "SteadyMachine") (by decide +kernel))) (fun _ h9 => h9) dX6_readOperands_279 ?_
    refine lv_iload_n hx hb dX6_readOperands_282 rfl (lv_at hl 1 rfl) ?_
    obtain ⟨h106, hF⟩ := hF
    refine va_ti hx hb hE.2.2 hS h106 (v := .int (sm_sz p1.toNatClampNeg)) rfl dX6_readOperands_283 ?_
    refine lv_iconst (v := 1) hx hb dX6_readOperands_284 (by decide) ?_
    refine lv_isub hx hb dX6_readOperands_285 ?_
    refine sm_vv (As := [.int ((sm_sz p1.toNatClampNeg) - 1)]) (rest := []) hP hK hD hE hS hA ⟨hx, hb, hml, hown, hts⟩ hl.1 (c_X6_skip l D H.size t0 σ α ((sm_sz p1.toNatClampNeg) - 1) _ hF) (cwV 1 hts wg_X6_readOperands_X6_skip_122 rfl rfl rfl (by decide +kernel) ⟨Nat.le_of_ble_eq_true rfl, Nat.le_of_ble_eq_true rfl⟩) (va_recv hK hP (ci := 6) (q0 := 6) rfl (sm_gX6 σ α)) rfl rfl (Nat.le_of_ble_eq_true rfl) dX6_readOperands_286 ⟨Nat.zero_le _, Nat.zero_le _⟩ (fun σ107 H locs hF hP hS => ?_)
    exact B289 σ107 hF H locs ls hP hS (lv_sub hl [] rfl)
  by_cases h108 : p1 = 35
  · refine lv_tableIn (tgt := 278) hx hb dX6_readOperands_1 (by rw [h108]; decide) (by rw [h108]; decide) (by rw [h108]; rfl) (by decide) ?_
    replace hF := hF.2.2.2.2.2.2.2.2.2.2.2.2.2.2.2.2.2.2.2.2.2.2.2.2.2.2.2.2.2.2.2.2.2.1 h108
    refine lv_aload_n hx hb dX6_readOperands_278 rfl (lv_at hl 0 rfl) ?_
    refine va_getsN hx hb hE.2.1 hS hown (va_Nw.use rfl (hE.1 (.fieldLinkNest "SteadyMachine$Reader" 125 "SteadyMachine" "SIZE" "[I" "SteadyMachine") (by decide +kernel))) (fun _ h9 => h9) dX6_readOperands_279 ?_
    refine lv_iload_n hx hb dX6_readOperands_282 rfl (lv_at hl 1 rfl) ?_
    obtain ⟨h109, hF⟩ := hF
    refine va_ti hx hb hE.2.2 hS h109 (v := .int (sm_sz p1.toNatClampNeg)) rfl dX6_readOperands_283 ?_
    refine lv_iconst (v := 1) hx hb dX6_readOperands_284 (by decide) ?_
    refine lv_isub hx hb dX6_readOperands_285 ?_
    refine sm_vv (As := [.int ((sm_sz p1.toNatClampNeg) - 1)]) (rest := []) hP hK hD hE hS hA ⟨hx, hb, hml, hown, hts⟩ hl.1 (c_X6_skip l D H.size t0 σ α ((sm_sz p1.toNatClampNeg) - 1) _ hF) (cwV 1 hts wg_X6_readOperands_X6_skip_122 rfl rfl rfl (by decide +kernel) ⟨Nat.le_of_ble_eq_true rfl, Nat.le_of_ble_eq_true rfl⟩) (va_recv hK hP (ci := 6) (q0 := 6) rfl (sm_gX6 σ α)) rfl rfl (Nat.le_of_ble_eq_true rfl) dX6_readOperands_286 ⟨Nat.zero_le _, Nat.zero_le _⟩ (fun σ110 H locs hF hP hS => ?_)
    exact B289 σ110 hF H locs ls hP hS (lv_sub hl [] rfl)
  by_cases h111 : p1 = 36
  · refine lv_tableIn (tgt := 256) hx hb dX6_readOperands_1 (by rw [h111]; decide) (by rw [h111]; decide) (by rw [h111]; rfl) (by decide) ?_
    replace hF := hF.2.2.2.2.2.2.2.2.2.2.2.2.2.2.2.2.2.2.2.2.2.2.2.2.2.2.2.2.2.2.2.2.2.2.1 h111
    refine lv_aload_n hx hb dX6_readOperands_256 rfl (lv_at hl 0 rfl) ?_
    refine lv_aload_n hx hb dX6_readOperands_257 rfl (lv_at hl 0 rfl) ?_
    refine lv_iconst (v := 0) hx hb dX6_readOperands_258 (by decide) ?_
    refine lv_aload_n hx hb dX6_readOperands_259 rfl (lv_at hl 0 rfl) ?_
    refine va_get (D := D) (ci := 6) (v := .ref (α.1 0)) (C := RX6) (T := TX6) (N := 5) hx hb hts in_X6 hown hK hP 6 (sm_gX6 σ α) rfl 1 (by decide) k_0 (fun _ h9 => h9) rfl dX6_readOperands_260 ?_
    refine va_get (D := D) (ci := 0) (v := .int (σ.1 0)) (C := RX0) (T := TX0) (N := 7) hx hb hts in_X0 hown hK hP 0 (sm_gX0 σ α) rfl 0 (by decide) k_1 (fun _ h9 => h9) rfl dX6_readOperands_263 ?_
    refine lv_iconst (v := 1) hx hb dX6_readOperands_266 (by decide) ?_
    refine lv_isub hx hb dX6_readOperands_267 ?_
    refine lv_iconst (v := -1) hx hb dX6_readOperands_268 (by decide) ?_
    refine sm_vi (As := [.int 0, .int ((σ.1 0) - 1), .int (-1)]) (rest := [.ref (α.1 6)]) hP hK hD hE hS hA ⟨hx, hb, hml, hown, hts⟩ hl.1 (c_X6_number l D H.size t0 σ α 0 ((σ.1 0) - 1) (-1) _ hF) (cwV 3 hts wg_X6_readOperands_X6_number_34 rfl rfl rfl (by decide +kernel) ⟨Nat.le_of_ble_eq_true rfl, Nat.le_of_ble_eq_true rfl⟩) (va_recv hK hP (ci := 6) (q0 := 6) rfl (sm_gX6 σ α)) rfl rfl (Nat.le_of_ble_eq_true rfl) dX6_readOperands_269 ⟨Nat.zero_le _, Nat.zero_le _⟩ (fun r113 σ112 H locs hF hP hS => ?_)
    refine sm_vv (As := [.int r113]) (rest := []) hP hK hD hE hS hA ⟨hx, hb, hml, hown, hts⟩ hl.1 (c_X6_readSlot l D H.size t0 σ112 α r113 _ hF) (cwV 1 hts wg_X6_readOperands_X6_readSlot_138 rfl rfl rfl (by decide +kernel) ⟨Nat.le_of_ble_eq_true rfl, Nat.le_of_ble_eq_true rfl⟩) (va_recv hK hP (ci := 6) (q0 := 6) rfl (sm_gX6 σ112 α)) rfl rfl (Nat.le_of_ble_eq_true rfl) dX6_readOperands_272 ⟨Nat.zero_le _, Nat.zero_le _⟩ (fun σ114 H locs hF hP hS => ?_)
    refine lv_goto (tgt := 289) hx hb dX6_readOperands_275 (by decide) ?_
    exact B289 σ114 hF H locs ls hP hS (lv_sub hl [] rfl)
  refine lv_tableOut (tgt := 278) hx hb dX6_readOperands_1 (by have q0 := lv_neT h1 (show Int32.toInt 2 = 2 by decide); have q1 := lv_neT h4 (show Int32.toInt 3 = 3 by decide); have q2 := lv_neT h7 (show Int32.toInt 4 = 4 by decide); have q3 := lv_neT h10 (show Int32.toInt 5 = 5 by decide); have q4 := lv_neT h13 (show Int32.toInt 6 = 6 by decide); have q5 := lv_neT h16 (show Int32.toInt 7 = 7 by decide); have q6 := lv_neT h19 (show Int32.toInt 8 = 8 by decide); have q7 := lv_neT h22 (show Int32.toInt 9 = 9 by decide); have q8 := lv_neT h25 (show Int32.toInt 10 = 10 by decide); have q9 := lv_neT h28 (show Int32.toInt 11 = 11 by decide); have q10 := lv_neT h31 (show Int32.toInt 12 = 12 by decide); have q11 := lv_neT h34 (show Int32.toInt 13 = 13 by decide); have q12 := lv_neT h37 (show Int32.toInt 14 = 14 by decide); have q13 := lv_neT h40 (show Int32.toInt 15 = 15 by decide); have q14 := lv_neT h43 (show Int32.toInt 16 = 16 by decide); have q15 := lv_neT h46 (show Int32.toInt 17 = 17 by decide); have q16 := lv_neT h49 (show Int32.toInt 18 = 18 by decide); have q17 := lv_neT h52 (show Int32.toInt 19 = 19 by decide); have q18 := lv_neT h56 (show Int32.toInt 20 = 20 by decide); have q19 := lv_neT h60 (show Int32.toInt 21 = 21 by decide); have q20 := lv_neT h63 (show Int32.toInt 22 = 22 by decide); have q21 := lv_neT h66 (show Int32.toInt 23 = 23 by decide); have q22 := lv_neT h69 (show Int32.toInt 24 = 24 by decide); have q23 := lv_neT h72 (show Int32.toInt 25 = 25 by decide); have q24 := lv_neT h75 (show Int32.toInt 26 = 26 by decide); have q25 := lv_neT h78 (show Int32.toInt 27 = 27 by decide); have q26 := lv_neT h84 (show Int32.toInt 28 = 28 by decide); have q27 := lv_neT h90 (show Int32.toInt 29 = 29 by decide); have q28 := lv_neT h93 (show Int32.toInt 30 = 30 by decide); have q29 := lv_neT h96 (show Int32.toInt 31 = 31 by decide); have q30 := lv_neT h99 (show Int32.toInt 32 = 32 by decide); have q31 := lv_neT h102 (show Int32.toInt 33 = 33 by decide); have q32 := lv_neT h105 (show Int32.toInt 34 = 34 by decide); have q33 := lv_neT h108 (show Int32.toInt 35 = 35 by decide); have q34 := lv_neT h111 (show Int32.toInt 36 = 36 by decide); omega) (by decide) ?_
  replace hF := hF.2.2.2.2.2.2.2.2.2.2.2.2.2.2.2.2.2.2.2.2.2.2.2.2.2.2.2.2.2.2.2.2.2.2.2 h1 h4 h7 h10 h13 h16 h19 h22 h25 h28 h31 h34 h37 h40 h43 h46 h49 h52 h56 h60 h63 h66 h69 h72 h75 h78 h84 h90 h93 h96 h99 h102 h105 h108 h111
  refine lv_aload_n hx hb dX6_readOperands_278 rfl (lv_at hl 0 rfl) ?_
  refine va_getsN hx hb hE.2.1 hS hown (va_Nw.use rfl (hE.1 (.fieldLinkNest "SteadyMachine$Reader" 125 "SteadyMachine" "SIZE" "[I" "SteadyMachine") (by decide +kernel))) (fun _ h9 => h9) dX6_readOperands_279 ?_
  refine lv_iload_n hx hb dX6_readOperands_282 rfl (lv_at hl 1 rfl) ?_
  obtain ⟨h115, hF⟩ := hF
  refine va_ti hx hb hE.2.2 hS h115 (v := .int (sm_sz p1.toNatClampNeg)) rfl dX6_readOperands_283 ?_
  refine lv_iconst (v := 1) hx hb dX6_readOperands_284 (by decide) ?_
  refine lv_isub hx hb dX6_readOperands_285 ?_
  refine sm_vv (As := [.int ((sm_sz p1.toNatClampNeg) - 1)]) (rest := []) hP hK hD hE hS hA ⟨hx, hb, hml, hown, hts⟩ hl.1 (c_X6_skip l D H.size t0 σ α ((sm_sz p1.toNatClampNeg) - 1) _ hF) (cwV 1 hts wg_X6_readOperands_X6_skip_122 rfl rfl rfl (by decide +kernel) ⟨Nat.le_of_ble_eq_true rfl, Nat.le_of_ble_eq_true rfl⟩) (va_recv hK hP (ci := 6) (q0 := 6) rfl (sm_gX6 σ α)) rfl rfl (Nat.le_of_ble_eq_true rfl) dX6_readOperands_286 ⟨Nat.zero_le _, Nat.zero_le _⟩ (fun σ116 H locs hF hP hS => ?_)
  exact B289 σ116 hF H locs ls hP hS (lv_sub hl [] rfl)
theorem dX6_readCode_0 : decode cX6_readCode 0 = .ok (.aload_n 0, 1) := by decide +kernel
theorem dX6_readCode_1 : decode cX6_readCode 1 = .ok (.getfield 27, 3) := by decide +kernel
theorem dX6_readCode_4 : decode cX6_readCode 4 = .ok (.aload_n 0, 1) := by decide +kernel
theorem dX6_readCode_5 : decode cX6_readCode 5 = .ok (.getfield 26, 3) := by decide +kernel
theorem dX6_readCode_8 : decode cX6_readCode 8 = .ok (.getfield 103, 3) := by decide +kernel
theorem dX6_readCode_11 : decode cX6_readCode 11 = .ok (.iload_n 1, 1) := by decide +kernel
theorem dX6_readCode_12 : decode cX6_readCode 12 = .ok (.iaload, 1) := by decide +kernel
theorem dX6_readCode_13 : decode cX6_readCode 13 = .ok (.iadd, 1) := by decide +kernel
theorem dX6_readCode_14 : decode cX6_readCode 14 = .ok (.istore_n 2, 1) := by decide +kernel
theorem dX6_readCode_15 : decode cX6_readCode 15 = .ok (.iconst 0, 1) := by decide +kernel
theorem dX6_readCode_16 : decode cX6_readCode 16 = .ok (.istore_n 3, 1) := by decide +kernel
theorem dX6_readCode_17 : decode cX6_readCode 17 = .ok (.iload_n 3, 1) := by decide +kernel
theorem dX6_readCode_18 : decode cX6_readCode 18 = .ok (.sipush 1000, 3) := by decide +kernel
theorem dX6_readCode_21 : decode cX6_readCode 21 = .ok (.if_icmp .ge 115, 3) := by decide +kernel
theorem dX6_readCode_24 : decode cX6_readCode 24 = .ok (.aload_n 0, 1) := by decide +kernel
theorem dX6_readCode_25 : decode cX6_readCode 25 = .ok (.getfield 27, 3) := by decide +kernel
theorem dX6_readCode_28 : decode cX6_readCode 28 = .ok (.iload_n 2, 1) := by decide +kernel
theorem dX6_readCode_29 : decode cX6_readCode 29 = .ok (.if_icmp .ge 107, 3) := by decide +kernel
theorem dX6_readCode_32 : decode cX6_readCode 32 = .ok (.aload_n 0, 1) := by decide +kernel
theorem dX6_readCode_33 : decode cX6_readCode 33 = .ok (.getfield 31, 3) := by decide +kernel
theorem dX6_readCode_36 : decode cX6_readCode 36 = .ok (.iconst (-1), 1) := by decide +kernel
theorem dX6_readCode_37 : decode cX6_readCode 37 = .ok (.if_icmp .ne 99, 3) := by decide +kernel
theorem dX6_readCode_40 : decode cX6_readCode 40 = .ok (.aload_n 0, 1) := by decide +kernel
theorem dX6_readCode_41 : decode cX6_readCode 41 = .ok (.getfield 27, 3) := by decide +kernel
theorem dX6_readCode_44 : decode cX6_readCode 44 = .ok (.istore 4, 2) := by decide +kernel
theorem dX6_readCode_46 : decode cX6_readCode 46 = .ok (.aload_n 0, 1) := by decide +kernel
theorem dX6_readCode_47 : decode cX6_readCode 47 = .ok (.iconst 0, 1) := by decide +kernel
theorem dX6_readCode_48 : decode cX6_readCode 48 = .ok (.bipush 41, 2) := by decide +kernel
theorem dX6_readCode_50 : decode cX6_readCode 50 = .ok (.iconst (-1), 1) := by decide +kernel
theorem dX6_readCode_51 : decode cX6_readCode 51 = .ok (.invokevirtual 34, 3) := by decide +kernel
theorem dX6_readCode_54 : decode cX6_readCode 54 = .ok (.istore 5, 2) := by decide +kernel
theorem dX6_readCode_56 : decode cX6_readCode 56 = .ok (.aload_n 0, 1) := by decide +kernel
theorem dX6_readCode_57 : decode cX6_readCode 57 = .ok (.getfield 31, 3) := by decide +kernel
theorem dX6_readCode_60 : decode cX6_readCode 60 = .ok (.iconst (-1), 1) := by decide +kernel
theorem dX6_readCode_61 : decode cX6_readCode 61 = .ok (.if_icmp .ne 22, 3) := by decide +kernel
theorem dX6_readCode_64 : decode cX6_readCode 64 = .ok (.iload 4, 2) := by decide +kernel
theorem dX6_readCode_66 : decode cX6_readCode 66 = .ok (.getstatic 125, 3) := by decide +kernel
theorem dX6_readCode_69 : decode cX6_readCode 69 = .ok (.iload 5, 2) := by decide +kernel
theorem dX6_readCode_71 : decode cX6_readCode 71 = .ok (.iaload, 1) := by decide +kernel
theorem dX6_readCode_72 : decode cX6_readCode 72 = .ok (.iadd, 1) := by decide +kernel
theorem dX6_readCode_73 : decode cX6_readCode 73 = .ok (.iload_n 2, 1) := by decide +kernel
theorem dX6_readCode_74 : decode cX6_readCode 74 = .ok (.if_icmp .le 9, 3) := by decide +kernel
theorem dX6_readCode_77 : decode cX6_readCode 77 = .ok (.aload_n 0, 1) := by decide +kernel
theorem dX6_readCode_78 : decode cX6_readCode 78 = .ok (.iload 4, 2) := by decide +kernel
theorem dX6_readCode_80 : decode cX6_readCode 80 = .ok (.putfield 31, 3) := by decide +kernel
theorem dX6_readCode_83 : decode cX6_readCode 83 = .ok (.aload_n 0, 1) := by decide +kernel
theorem dX6_readCode_84 : decode cX6_readCode 84 = .ok (.getfield 31, 3) := by decide +kernel
theorem dX6_readCode_87 : decode cX6_readCode 87 = .ok (.iconst (-1), 1) := by decide +kernel
theorem dX6_readCode_88 : decode cX6_readCode 88 = .ok (.if_icmp .ne 42, 3) := by decide +kernel
theorem dX6_readCode_91 : decode cX6_readCode 91 = .ok (.aload_n 0, 1) := by decide +kernel
theorem dX6_readCode_92 : decode cX6_readCode 92 = .ok (.getfield 9, 3) := by decide +kernel
theorem dX6_readCode_95 : decode cX6_readCode 95 = .ok (.getfield 128, 3) := by decide +kernel
theorem dX6_readCode_98 : decode cX6_readCode 98 = .ok (.iload 4, 2) := by decide +kernel
theorem dX6_readCode_100 : decode cX6_readCode 100 = .ok (.iconst 1, 1) := by decide +kernel
theorem dX6_readCode_101 : decode cX6_readCode 101 = .ok (.bastore, 1) := by decide +kernel
theorem dX6_readCode_102 : decode cX6_readCode 102 = .ok (.aload_n 0, 1) := by decide +kernel
theorem dX6_readCode_103 : decode cX6_readCode 103 = .ok (.getfield 9, 3) := by decide +kernel
theorem dX6_readCode_106 : decode cX6_readCode 106 = .ok (.dup, 1) := by decide +kernel
theorem dX6_readCode_107 : decode cX6_readCode 107 = .ok (.getfield 132, 3) := by decide +kernel
theorem dX6_readCode_110 : decode cX6_readCode 110 = .ok (.iconst 1, 1) := by decide +kernel
theorem dX6_readCode_111 : decode cX6_readCode 111 = .ok (.iadd, 1) := by decide +kernel
theorem dX6_readCode_112 : decode cX6_readCode 112 = .ok (.putfield 132, 3) := by decide +kernel
theorem dX6_readCode_115 : decode cX6_readCode 115 = .ok (.aload_n 0, 1) := by decide +kernel
theorem dX6_readCode_116 : decode cX6_readCode 116 = .ok (.iload 5, 2) := by decide +kernel
theorem dX6_readCode_118 : decode cX6_readCode 118 = .ok (.aload_n 0, 1) := by decide +kernel
theorem dX6_readCode_119 : decode cX6_readCode 119 = .ok (.getfield 26, 3) := by decide +kernel
theorem dX6_readCode_122 : decode cX6_readCode 122 = .ok (.getfield 97, 3) := by decide +kernel
theorem dX6_readCode_125 : decode cX6_readCode 125 = .ok (.iload_n 1, 1) := by decide +kernel
theorem dX6_readCode_126 : decode cX6_readCode 126 = .ok (.iaload, 1) := by decide +kernel
theorem dX6_readCode_127 : decode cX6_readCode 127 = .ok (.invokevirtual 135, 3) := by decide +kernel
theorem dX6_readCode_130 : decode cX6_readCode 130 = .ok (.iinc 3 1, 3) := by decide +kernel
theorem dX6_readCode_133 : decode cX6_readCode 133 = .ok (.goto (-116), 3) := by decide +kernel
theorem dX6_readCode_136 : decode cX6_readCode 136 = .ok (.return_, 1) := by decide +kernel
def wp_X6_readCode : List Cond := .code yX6_readCode cX6_readCode 6 none :: ((((([.fieldLink RX6 31 "SteadyMachine$Reader" "wrong" "I", .fieldLink RX6 9 "SteadyMachine$Reader" "image" "LSteadyMachine$Image;", .fieldLink RX6 128 "SteadyMachine$Image" "begins" "[Z", .fieldLink RX6 132 "SteadyMachine$Image" "instructions" "I", .fieldLink RX6 26 "SteadyMachine$Reader" "methods" "LSteadyMachine$Methods;", .fieldLink RX6 97 "SteadyMachine$Methods" "locals" "[I", .fieldLink RX6 27 "SteadyMachine$Reader" "at" "I", .fieldLink RX6 103 "SteadyMachine$Methods" "length" "[I"] ++ (wsV RX6 135 RX6 yX6_readOperands wp_X6_readOperands)) ++ (wsV RX6 34 RX6 yX6_number wp_X6_number)) ++ wsX20) ++ wsX40) ++ wsX60)
theorem wq_X6_readCode : wp_X6_readCode.all goodWord = true := wa_c rfl (wa_a (wa_a (wa_a (wa_a (wa_a (by decide +kernel) (wa_V wq_X6_readOperands)) (wa_V wq_X6_number)) uq_X2) uq_X4) uq_X6)
theorem wt_X6_readCode : GoodIn lw_tbl wp_X6_readCode := wm_c (List.mem_of_getElem? (i := 684) (by decide +kernel)) rfl (wm_a (wm_a (wm_a (wm_a (wm_a (goodIn_r _ [341, 337, 310, 316, 339, 242, 340, 257] (by decide +kernel) (by decide +kernel)) (wm_a (goodIn_r _ [687, 689, 7, 140] (by decide +kernel) (by decide +kernel)) wt_X6_readOperands)) (wm_a (goodIn_r _ [649, 651, 1, 140] (by decide +kernel) (by decide +kernel)) wt_X6_number)) ut_X2) ut_X4) ut_X6)
theorem wg_X6_readCode_X6_readOperands_135 : GoodIn wp_X6_readCode (wsV RX6 135 RX6 yX6_readOperands wp_X6_readOperands) := goodIn_sub (fun w h => List.mem_cons_of_mem _ (List.mem_append_left _ (List.mem_append_left _ (List.mem_append_left _ (List.mem_append_left _ (List.mem_append_right _ h)))))) (wa_V wq_X6_readOperands)
theorem wg_X6_readCode_X6_number_34 : GoodIn wp_X6_readCode (wsV RX6 34 RX6 yX6_number wp_X6_number) := goodIn_sub (fun w h => List.mem_cons_of_mem _ (List.mem_append_left _ (List.mem_append_left _ (List.mem_append_left _ (List.mem_append_right _ h))))) (wa_V wq_X6_number)
theorem wi_X6_readCode_X2 : ∀ w ∈ wsX20, w ∈ wp_X6_readCode := fun w h => List.mem_cons_of_mem _ (List.mem_append_left _ (List.mem_append_left _ (List.mem_append_right _ h)))
theorem wi_X6_readCode_X4 : ∀ w ∈ wsX40, w ∈ wp_X6_readCode := fun w h => List.mem_cons_of_mem _ (List.mem_append_left _ (List.mem_append_right _ h))
theorem wi_X6_readCode_X6 : ∀ w ∈ wsX60, w ∈ wp_X6_readCode := fun w h => List.mem_cons_of_mem _ (List.mem_append_right _ h)
set_option maxHeartbeats 4000000 in
set_option maxRecDepth 100000 in
theorem c_X6_readCode (l : Launch) (D : va_G) (sz t0 : Nat) (σ : sm_S) (α : sm_A) (p1 : Int32) (K : sm_S → Prop) (hF : mp_X6_readCode σ p1 K) : Met l yX6_readCode wp_X6_readCode { frames := 4, cells := 0, slots := 0, locals := 90 } (sm_P sm_wX sm_tX 37 D sz t0 σ α [.ref (α.1 6), .int p1]) (va_Qv K (sm_B sm_wX D α) (sm_a α 37 sz)) 0 0 (sm_a α 37 sz) := by
  refine Met.ofW (cc := cX6_readCode) (maxL := 6) (ret := none) (by decide) rfl ?_
  intro p e s m args below meth c s₁ B hml hv
  obtain ⟨rfl, hsz, hP, hK, hD0, hE⟩ := hv
  have hx := B.exec
  have hb := B.bytes
  have hr := B.returns
  have hts := atoms_spec (ws := wp_X6_readCode) B.pre
  have hown : s.vm.findClass RX6 = some m.cls := findClass_of_methodNamed B.named
  have hlocks := B.notSynchronized
  subst hsz
  have hD : sm_D (sm_a α 37 s.heap.size) α 37 := hD0.own
  have hA : ∀ q : Nat, s.heap.size ≤ q → sm_a α 37 s.heap.size q := fun q h => Or.inr h
  generalize hAe : sm_a α 37 s.heap.size = A at hD hA hE ⊢
  have hS : va_S A s.heap s.heap [] := va_S.rf
  have in_X2 : ∀ w ∈ wsX20, w ∈ wp_X6_readCode := wi_X6_readCode_X2
  have in_X4 : ∀ w ∈ wsX40, w ∈ wp_X6_readCode := wi_X6_readCode_X4
  have in_X6 : ∀ w ∈ wsX60, w ∈ wp_X6_readCode := wi_X6_readCode_X6
  have k_0 := hts (.fieldLink RX6 31 "SteadyMachine$Reader" "wrong" "I") (by decide +kernel)
  have k_1 := hts (.fieldLink RX6 9 "SteadyMachine$Reader" "image" "LSteadyMachine$Image;") (by decide +kernel)
  have k_2 := hts (.fieldLink RX6 128 "SteadyMachine$Image" "begins" "[Z") (by decide +kernel)
  have k_3 := hts (.fieldLink RX6 132 "SteadyMachine$Image" "instructions" "I") (by decide +kernel)
  have k_4 := hts (.fieldLink RX6 26 "SteadyMachine$Reader" "methods" "LSteadyMachine$Methods;") (by decide +kernel)
  have k_5 := hts (.fieldLink RX6 97 "SteadyMachine$Methods" "locals" "[I") (by decide +kernel)
  have k_6 := hts (.fieldLink RX6 27 "SteadyMachine$Reader" "at" "I") (by decide +kernel)
  have k_7 := hts (.fieldLink RX6 103 "SteadyMachine$Methods" "length" "[I") (by decide +kernel)
  have hl := lv_entry ([.ref (α.1 6), .int p1]) (n := 6) (Nat.le_of_ble_eq_true rfl)
  rw [lg_entry_eq]
  generalize (lg_sl ([.ref (α.1 6), .int p1]) ++ List.replicate (6 - (lg_sl ([.ref (α.1 6), .int p1])).length) Slot.unset).toArray = ls at hl ⊢
  have hl : lv_has ls 6 [(0, .ref (α.1 6)), (1, .int p1)] := hl
  have B136 : ∀ (σ : sm_S), mp_X6_readCode_136 K σ → sm_J p l e (headSpec wp_X6_readCode { frames := 4, cells := 0, slots := 0, locals := 90 }).room s m ([.ref (α.1 6), .int p1] : List Value).toArray below meth c (MQ below (va_Qv K (sm_B sm_wX D α) A) ([.ref (α.1 6), .int p1] : List Value).toArray s 0 0 A) D A 6 (sm_wX σ α) 136 [] [] := by
    intro σ hF H locs ls hP hS hl
    unfold mp_X6_readCode_136 at hF
    exact W.vret hx hb hr (fun t ht hW => ⟨⟨σ, rfl, hF, (by unfold sm_B; rw [ht]; exact hP)⟩, hS.F ht⟩) hS.2.2 dX6_readCode_136
  have B130 : ∀ (L17 : sm_S → Int32 → Int32 → Int32 → Prop) (hL17 : ∀ (σ : sm_S) (x1 : Int32) (x2 : Int32) (x3 : Int32), L17 σ x1 x2 x3 → sm_J p l e (headSpec wp_X6_readCode { frames := 4, cells := 0, slots := 0, locals := 90 }).room s m ([.ref (α.1 6), .int p1] : List Value).toArray below meth c (MQ below (va_Qv K (sm_B sm_wX D α) A) ([.ref (α.1 6), .int p1] : List Value).toArray s 0 0 A) D A 6 (sm_wX σ α) 17 [(0, .ref (α.1 6)), (1, .int x1), (2, .int x2), (3, .int x3)] []) (σ : sm_S) (x1 : Int32) (x2 : Int32) (x3 : Int32), mp_X6_readCode_130 L17 K σ x1 x2 x3 → sm_J p l e (headSpec wp_X6_readCode { frames := 4, cells := 0, slots := 0, locals := 90 }).room s m ([.ref (α.1 6), .int p1] : List Value).toArray below meth c (MQ below (va_Qv K (sm_B sm_wX D α) A) ([.ref (α.1 6), .int p1] : List Value).toArray s 0 0 A) D A 6 (sm_wX σ α) 130 [(0, .ref (α.1 6)), (1, .int x1), (2, .int x2), (3, .int x3)] [] := by
    intro L17 hL17 σ x1 x2 x3 hF H locs ls hP hS hl
    unfold mp_X6_readCode_130 at hF
    obtain ⟨v1, ev1⟩ : ∃ y : Int32, y = x3 + 1 := ⟨_, rfl⟩
    replace hF := hF v1 ev1
    refine lv_iinc (v := v1) (lv' := [(3, .int v1), (0, .ref (α.1 6)), (1, .int x1), (2, .int x2)]) hx hb dX6_readCode_130 hl (k := 3) rfl (by rw [ev1]; rfl) (by decide) rfl (fun ls hl => ?_)
    refine lv_goto (tgt := 17) hx hb dX6_readCode_133 (by decide) ?_
    exact hL17 σ x1 x2 v1 hF H locs ls hP hS (lv_sub hl [1, 2, 3, 0] rfl)
  have B83 : ∀ (L17 : sm_S → Int32 → Int32 → Int32 → Prop) (hL17 : ∀ (σ : sm_S) (x1 : Int32) (x2 : Int32) (x3 : Int32), L17 σ x1 x2 x3 → sm_J p l e (headSpec wp_X6_readCode { frames := 4, cells := 0, slots := 0, locals := 90 }).room s m ([.ref (α.1 6), .int p1] : List Value).toArray below meth c (MQ below (va_Qv K (sm_B sm_wX D α) A) ([.ref (α.1 6), .int p1] : List Value).toArray s 0 0 A) D A 6 (sm_wX σ α) 17 [(0, .ref (α.1 6)), (1, .int x1), (2, .int x2), (3, .int x3)] []) (σ : sm_S) (x1 : Int32) (x2 : Int32) (x3 : Int32) (x4 : Int32) (x5 : Int32), mp_X6_readCode_83 L17 K σ x1 x2 x3 x4 x5 → sm_J p l e (headSpec wp_X6_readCode { frames := 4, cells := 0, slots := 0, locals := 90 }).room s m ([.ref (α.1 6), .int p1] : List Value).toArray below meth c (MQ below (va_Qv K (sm_B sm_wX D α) A) ([.ref (α.1 6), .int p1] : List Value).toArray s 0 0 A) D A 6 (sm_wX σ α) 83 [(0, .ref (α.1 6)), (1, .int x1), (2, .int x2), (3, .int x3), (4, .int x4), (5, .int x5)] [] := by
    intro L17 hL17 σ x1 x2 x3 x4 x5 hF H locs ls hP hS hl
    unfold mp_X6_readCode_83 at hF
    refine lv_aload_n hx hb dX6_readCode_83 rfl (lv_at hl 0 rfl) ?_
    refine va_get (D := D) (ci := 6) (v := .int (σ.1 21)) (C := RX6) (T := TX6) (N := 5) hx hb hts in_X6 hown hK hP 6 (sm_gX6 σ α) rfl 4 (by decide) k_0 (fun _ h9 => h9) rfl dX6_readCode_84 ?_
    refine lv_iconst (v := -1) hx hb dX6_readCode_87 (by decide) ?_
    refine lv_icmp_ne (tgt := 130) hx hb dX6_readCode_88 (by decide) (fun h2 => ?_) (fun h2 => ?_)
    · replace hF := hF.1 h2
      exact B130 L17 hL17 σ x1 x2 x3 hF H locs ls hP hS (lv_sub hl [0, 1, 2, 3] rfl)
    · replace hF := hF.2 h2
      refine lv_aload_n hx hb dX6_readCode_91 rfl (lv_at hl 0 rfl) ?_
      refine va_get (D := D) (ci := 6) (v := .ref (α.1 2)) (C := RX6) (T := TX6) (N := 5) hx hb hts in_X6 hown hK hP 6 (sm_gX6 σ α) rfl 0 (by decide) k_1 (fun _ h9 => h9) rfl dX6_readCode_92 ?_
      refine va_get (D := D) (ci := 2) (v := .ref (α.1 19)) (C := RX2) (T := TX2) (N := 6) hx hb hts in_X2 hown hK hP 2 (sm_gX2 σ α) rfl 3 (by decide) k_2 (fun _ h9 => h9) rfl dX6_readCode_95 ?_
      refine lv_iload hx hb dX6_readCode_98 (lv_at hl 4 rfl) ?_
      refine lv_iconst (v := 1) hx hb dX6_readCode_100 (by decide) ?_
      obtain ⟨h3, hF⟩ := hF
      refine va_zast (n := (σ.2.2.1 19)) (f := (σ.2.2.2.1 19)) (x := 1) hx hb hK hP (hD.to (sm_wX_m _ _)) hS 19 8 (sm_aX19 σ α) (sm_yX19 α) h3 dX6_readCode_101 (fun H locs hP _ hS => ?_)
      rw [sm_rX19] at hP
      obtain ⟨σ4, eσ4⟩ : ∃ x : sm_S, x = sm_r σ 19 (upd (σ.2.2.2.1 19) x4.toNatClampNeg (vp_nar .boolean 1)) := ⟨_, rfl⟩
      replace hF := hF σ4 eσ4
      rw [← eσ4] at hP
      refine lv_aload_n hx hb dX6_readCode_102 rfl (lv_at hl 0 rfl) ?_
      refine va_get (D := D) (ci := 6) (v := .ref (α.1 2)) (C := RX6) (T := TX6) (N := 5) hx hb hts in_X6 hown hK hP 6 (sm_gX6 σ4 α) rfl 0 (by decide) k_1 (fun _ h9 => h9) rfl dX6_readCode_103 ?_
      refine lv_dup hx hb dX6_readCode_106 rfl ?_
      refine va_get (D := D) (ci := 2) (v := .int (σ4.1 15)) (C := RX2) (T := TX2) (N := 6) hx hb hts in_X2 hown hK hP 2 (sm_gX2 σ4 α) rfl 5 (by decide) k_3 (fun _ h9 => h9) rfl dX6_readCode_107 ?_
      refine lv_iconst (v := 1) hx hb dX6_readCode_110 (by decide) ?_
      refine lv_iadd hx hb dX6_readCode_111 ?_
      refine va_put (D := D) (ci := 2) (v := .int ((σ4.1 15) + 1)) (ty := .int) (C := RX2) (T := TX2) (N := 6) hx hb hts in_X2 tyX2 tyX2_ok nmX2 hown hK hP (hD.to (sm_wX_m _ _)) hS 2 (sm_gX2 σ4 α) rfl 5 (by decide) k_3 (fun _ h9 => h9) rfl (by decide +kernel) rfl rfl (Nat.le_of_ble_eq_true rfl) dX6_readCode_112 (fun H locs hP _ hS => ?_)
      rw [sm_iX15] at hP
      obtain ⟨σ5, eσ5⟩ : ∃ x : sm_S, x = sm_i σ4 15 ((σ4.1 15) + 1) := ⟨_, rfl⟩
      replace hF := hF σ5 eσ5
      rw [← eσ5] at hP
      refine lv_aload_n hx hb dX6_readCode_115 rfl (lv_at hl 0 rfl) ?_
      refine lv_iload hx hb dX6_readCode_116 (lv_at hl 5 rfl) ?_
      refine lv_aload_n hx hb dX6_readCode_118 rfl (lv_at hl 0 rfl) ?_
      refine va_get (D := D) (ci := 6) (v := .ref (α.1 4)) (C := RX6) (T := TX6) (N := 5) hx hb hts in_X6 hown hK hP 6 (sm_gX6 σ5 α) rfl 2 (by decide) k_4 (fun _ h9 => h9) rfl dX6_readCode_119 ?_
      refine va_get (D := D) (ci := 4) (v := .ref (α.1 24)) (C := RX4) (T := TX4) (N := 12) hx hb hts in_X4 hown hK hP 4 (sm_gX4 σ5 α) rfl 6 (by decide) k_5 (fun _ h9 => h9) rfl dX6_readCode_122 ?_
      refine lv_iload_n hx hb dX6_readCode_125 rfl (lv_at hl 1 rfl) ?_
      obtain ⟨h6, hF⟩ := hF
      refine va_iald (n := (σ5.2.2.1 24)) (f := (σ5.2.2.2.1 24)) hx hb hK hP 24 13 (sm_aX24 σ5 α) (sm_yX24 α) h6 dX6_readCode_126 ?_
      refine sm_vv (As := [.int x5, .int ((σ5.2.2.2.1 24) x1.toNatClampNeg)]) (rest := []) hP hK hD hE hS hA ⟨hx, hb, hml, hown, hts⟩ hl.1 (c_X6_readOperands l D H.size t0 σ5 α x5 ((σ5.2.2.2.1 24) x1.toNatClampNeg) _ hF) (cwV 2 hts wg_X6_readCode_X6_readOperands_135 rfl rfl rfl (by decide +kernel) ⟨Nat.le_of_ble_eq_true rfl, Nat.le_of_ble_eq_true rfl⟩) (va_recv hK hP (ci := 6) (q0 := 6) rfl (sm_gX6 σ5 α)) rfl rfl (Nat.le_of_ble_eq_true rfl) dX6_readCode_127 ⟨Nat.zero_le _, Nat.zero_le _⟩ (fun σ7 H locs hF hP hS => ?_)
      exact B130 L17 hL17 σ7 x1 x2 x3 hF H locs ls hP hS (lv_sub hl [0, 1, 2, 3] rfl)
  have B17 : ∀ (n : Nat) (σ : sm_S) (x1 : Int32) (x2 : Int32) (x3 : Int32), mp_X6_readCode_17 K n σ x1 x2 x3 → sm_J p l e (headSpec wp_X6_readCode { frames := 4, cells := 0, slots := 0, locals := 90 }).room s m ([.ref (α.1 6), .int p1] : List Value).toArray below meth c (MQ below (va_Qv K (sm_B sm_wX D α) A) ([.ref (α.1 6), .int p1] : List Value).toArray s 0 0 A) D A 6 (sm_wX σ α) 17 [(0, .ref (α.1 6)), (1, .int x1), (2, .int x2), (3, .int x3)] [] := by
    intro n17
    induction n17 with
    | zero =>
      intro σ x1 x2 x3 hF
      exact hF.elim
    | succ n17 ih17 =>
      intro σ x1 x2 x3 hF H locs ls hP hS hl
      unfold mp_X6_readCode_17 at hF
      refine lv_iload_n hx hb dX6_readCode_17 rfl (lv_at hl 3 rfl) ?_
      refine lv_sipush (v := 1000) hx hb dX6_readCode_18 (by decide) ?_
      refine lv_icmp_ge (tgt := 136) hx hb dX6_readCode_21 (by decide) (fun h8 => ?_) (fun h8 => ?_)
      · replace hF := hF.1 h8
        exact B136 σ hF H locs ls hP hS (lv_sub hl [] rfl)
      · replace hF := hF.2 h8
        refine lv_aload_n hx hb dX6_readCode_24 rfl (lv_at hl 0 rfl) ?_
        refine va_get (D := D) (ci := 6) (v := .int (σ.1 20)) (C := RX6) (T := TX6) (N := 5) hx hb hts in_X6 hown hK hP 6 (sm_gX6 σ α) rfl 3 (by decide) k_6 (fun _ h9 => h9) rfl dX6_readCode_25 ?_
        refine lv_iload_n hx hb dX6_readCode_28 rfl (lv_at hl 2 rfl) ?_
        refine lv_icmp_ge (tgt := 136) hx hb dX6_readCode_29 (by decide) (fun h9 => ?_) (fun h9 => ?_)
        · replace hF := hF.1 h9
          exact B136 σ hF H locs ls hP hS (lv_sub hl [] rfl)
        · replace hF := hF.2 h9
          refine lv_aload_n hx hb dX6_readCode_32 rfl (lv_at hl 0 rfl) ?_
          refine va_get (D := D) (ci := 6) (v := .int (σ.1 21)) (C := RX6) (T := TX6) (N := 5) hx hb hts in_X6 hown hK hP 6 (sm_gX6 σ α) rfl 4 (by decide) k_0 (fun _ h9 => h9) rfl dX6_readCode_33 ?_
          refine lv_iconst (v := -1) hx hb dX6_readCode_36 (by decide) ?_
          refine lv_icmp_ne (tgt := 136) hx hb dX6_readCode_37 (by decide) (fun h10 => ?_) (fun h10 => ?_)
          · replace hF := hF.1 h10
            exact B136 σ hF H locs ls hP hS (lv_sub hl [] rfl)
          · replace hF := hF.2 h10
            refine lv_aload_n hx hb dX6_readCode_40 rfl (lv_at hl 0 rfl) ?_
            refine va_get (D := D) (ci := 6) (v := .int (σ.1 20)) (C := RX6) (T := TX6) (N := 5) hx hb hts in_X6 hown hK hP 6 (sm_gX6 σ α) rfl 3 (by decide) k_6 (fun _ h9 => h9) rfl dX6_readCode_41 ?_
            refine lv_topi (fun v11 ev11 => ?_)
            replace hF := hF v11 ev11
            refine lv_istore (lv' := [(4, .int v11), (0, .ref (α.1 6)), (1, .int x1), (2, .int x2), (3, .int x3)]) hx hb dX6_readCode_44 hl (by decide) rfl (fun ls hl => ?_)
            refine lv_aload_n hx hb dX6_readCode_46 rfl (lv_at hl 1 rfl) ?_
            refine lv_iconst (v := 0) hx hb dX6_readCode_47 (by decide) ?_
            refine lv_bipush (v := 41) hx hb dX6_readCode_48 (by decide) ?_
            refine lv_iconst (v := -1) hx hb dX6_readCode_50 (by decide) ?_
            refine sm_vi (As := [.int 0, .int 41, .int (-1)]) (rest := []) hP hK hD hE hS hA ⟨hx, hb, hml, hown, hts⟩ hl.1 (c_X6_number l D H.size t0 σ α 0 41 (-1) _ hF) (cwV 3 hts wg_X6_readCode_X6_number_34 rfl rfl rfl (by decide +kernel) ⟨Nat.le_of_ble_eq_true rfl, Nat.le_of_ble_eq_true rfl⟩) (va_recv hK hP (ci := 6) (q0 := 6) rfl (sm_gX6 σ α)) rfl rfl (Nat.le_of_ble_eq_true rfl) dX6_readCode_51 ⟨Nat.zero_le _, Nat.zero_le _⟩ (fun r13 σ12 H locs hF hP hS => ?_)
            refine lv_istore (lv' := [(5, .int r13), (4, .int v11), (0, .ref (α.1 6)), (1, .int x1), (2, .int x2), (3, .int x3)]) hx hb dX6_readCode_54 hl (by decide) rfl (fun ls hl => ?_)
            refine lv_aload_n hx hb dX6_readCode_56 rfl (lv_at hl 2 rfl) ?_
            refine va_get (D := D) (ci := 6) (v := .int (σ12.1 21)) (C := RX6) (T := TX6) (N := 5) hx hb hts in_X6 hown hK hP 6 (sm_gX6 σ12 α) rfl 4 (by decide) k_0 (fun _ h9 => h9) rfl dX6_readCode_57 ?_
            refine lv_iconst (v := -1) hx hb dX6_readCode_60 (by decide) ?_
            refine lv_icmp_ne (tgt := 83) hx hb dX6_readCode_61 (by decide) (fun h14 => ?_) (fun h14 => ?_)
            · replace hF := hF.1 h14
              exact B83 (mp_X6_readCode_17 K n17) ih17 σ12 x1 x2 x3 v11 r13 hF H locs ls hP hS (lv_sub hl [2, 3, 4, 5, 1, 0] rfl)
            · replace hF := hF.2 h14
              refine lv_iload hx hb dX6_readCode_64 (lv_at hl 1 rfl) ?_
              refine va_getsN hx hb hE.2.1 hS hown (va_Nw.use rfl (hE.1 (.fieldLinkNest "SteadyMachine$Reader" 125 "SteadyMachine" "SIZE" "[I" "SteadyMachine") (by decide +kernel))) (fun _ h9 => h9) dX6_readCode_66 ?_
              refine lv_iload hx hb dX6_readCode_69 (lv_at hl 0 rfl) ?_
              obtain ⟨h15, hF⟩ := hF
              refine va_ti hx hb hE.2.2 hS h15 (v := .int (sm_sz r13.toNatClampNeg)) rfl dX6_readCode_71 ?_
              refine lv_iadd hx hb dX6_readCode_72 ?_
              refine lv_iload_n hx hb dX6_readCode_73 rfl (lv_at hl 4 rfl) ?_
              refine lv_icmp_le (tgt := 83) hx hb dX6_readCode_74 (by decide) (fun h16 => ?_) (fun h16 => ?_)
              · replace hF := hF.1 h16
                exact B83 (mp_X6_readCode_17 K n17) ih17 σ12 x1 x2 x3 v11 r13 hF H locs ls hP hS (lv_sub hl [2, 3, 4, 5, 1, 0] rfl)
              · replace hF := hF.2 h16
                refine lv_aload_n hx hb dX6_readCode_77 rfl (lv_at hl 2 rfl) ?_
                refine lv_iload hx hb dX6_readCode_78 (lv_at hl 1 rfl) ?_
                refine va_put (D := D) (ci := 6) (v := .int v11) (ty := .int) (C := RX6) (T := TX6) (N := 5) hx hb hts in_X6 tyX6 tyX6_ok nmX6 hown hK hP (hD.to (sm_wX_m _ _)) hS 6 (sm_gX6 σ12 α) rfl 4 (by decide) k_0 (fun _ h9 => h9) rfl (by decide +kernel) rfl rfl (Nat.le_of_ble_eq_true rfl) dX6_readCode_80 (fun H locs hP _ hS => ?_)
                rw [sm_iX21] at hP
                obtain ⟨σ17, eσ17⟩ : ∃ x : sm_S, x = sm_i σ12 21 v11 := ⟨_, rfl⟩
                replace hF := hF σ17 eσ17
                rw [← eσ17] at hP
                exact B83 (mp_X6_readCode_17 K n17) ih17 σ17 x1 x2 x3 v11 r13 hF H locs ls hP hS (lv_sub hl [2, 3, 4, 5, 1, 0] rfl)
  unfold mp_X6_readCode at hF
  revert hP hS
  generalize hLo : ([] : List Loc) = locs
  suffices h9 : ∀ (H : Heap) (locs : List Loc), va_P D vwCl (sm_wX σ α) H → va_S A s.heap H locs → W p l e (headSpec wp_X6_readCode { frames := 4, cells := 0, slots := 0, locals := 90 }).room s m ([.ref (α.1 6), .int p1] : List Value).toArray below meth c H locs 0 0 (MQ below (va_Qv K (sm_B sm_wX D α) A) ([.ref (α.1 6), .int p1] : List Value).toArray s 0 0 A) (F0 m 0 ls []) from fun hP hS => h9 s.heap locs hP hS
  intro H locs hP hS
  refine lv_aload_n hx hb dX6_readCode_0 rfl (lv_at hl 0 rfl) ?_
  refine va_get (D := D) (ci := 6) (v := .int (σ.1 20)) (C := RX6) (T := TX6) (N := 5) hx hb hts in_X6 hown hK hP 6 (sm_gX6 σ α) rfl 3 (by decide) k_6 (fun _ h9 => h9) rfl dX6_readCode_1 ?_
  refine lv_aload_n hx hb dX6_readCode_4 rfl (lv_at hl 0 rfl) ?_
  refine va_get (D := D) (ci := 6) (v := .ref (α.1 4)) (C := RX6) (T := TX6) (N := 5) hx hb hts in_X6 hown hK hP 6 (sm_gX6 σ α) rfl 2 (by decide) k_4 (fun _ h9 => h9) rfl dX6_readCode_5 ?_
  refine va_get (D := D) (ci := 4) (v := .ref (α.1 27)) (C := RX4) (T := TX4) (N := 12) hx hb hts in_X4 hown hK hP 4 (sm_gX4 σ α) rfl 9 (by decide) k_7 (fun _ h9 => h9) rfl dX6_readCode_8 ?_
  refine lv_iload_n hx hb dX6_readCode_11 rfl (lv_at hl 1 rfl) ?_
  obtain ⟨h18, hF⟩ := hF
  refine va_iald (n := (σ.2.2.1 27)) (f := (σ.2.2.2.1 27)) hx hb hK hP 27 16 (sm_aX27 σ α) (sm_yX27 α) h18 dX6_readCode_12 ?_
  refine lv_iadd hx hb dX6_readCode_13 ?_
  refine lv_topi (fun v19 ev19 => ?_)
  replace hF := hF v19 ev19
  refine lv_istore_n (lv' := [(2, .int v19), (0, .ref (α.1 6)), (1, .int p1)]) hx hb dX6_readCode_14 rfl hl (by decide) rfl (fun ls hl => ?_)
  refine lv_iconst (v := 0) hx hb dX6_readCode_15 (by decide) ?_
  refine lv_istore_n (lv' := [(3, .int 0), (2, .int v19), (0, .ref (α.1 6)), (1, .int p1)]) hx hb dX6_readCode_16 rfl hl (by decide) rfl (fun ls hl => ?_)
  obtain ⟨n17, hF⟩ := hF
  exact B17 n17 σ p1 v19 0 hF H locs ls hP hS (lv_sub hl [2, 3, 1, 0] rfl)
theorem dX6_readMethod_0 : decode cX6_readMethod 0 = .ok (.aload_n 0, 1) := by decide +kernel
theorem dX6_readMethod_1 : decode cX6_readMethod 1 = .ok (.iconst 0, 1) := by decide +kernel
theorem dX6_readMethod_2 : decode cX6_readMethod 2 = .ok (.aload_n 0, 1) := by decide +kernel
theorem dX6_readMethod_3 : decode cX6_readMethod 3 = .ok (.getfield 21, 3) := by decide +kernel
theorem dX6_readMethod_6 : decode cX6_readMethod 6 = .ok (.getfield 38, 3) := by decide +kernel
theorem dX6_readMethod_9 : decode cX6_readMethod 9 = .ok (.iconst 1, 1) := by decide +kernel
theorem dX6_readMethod_10 : decode cX6_readMethod 10 = .ok (.isub, 1) := by decide +kernel
theorem dX6_readMethod_11 : decode cX6_readMethod 11 = .ok (.sipush 255, 3) := by decide +kernel
theorem dX6_readMethod_14 : decode cX6_readMethod 14 = .ok (.invokevirtual 34, 3) := by decide +kernel
theorem dX6_readMethod_17 : decode cX6_readMethod 17 = .ok (.istore_n 2, 1) := by decide +kernel
theorem dX6_readMethod_18 : decode cX6_readMethod 18 = .ok (.aload_n 0, 1) := by decide +kernel
theorem dX6_readMethod_19 : decode cX6_readMethod 19 = .ok (.getfield 26, 3) := by decide +kernel
theorem dX6_readMethod_22 : decode cX6_readMethod 22 = .ok (.getfield 85, 3) := by decide +kernel
theorem dX6_readMethod_25 : decode cX6_readMethod 25 = .ok (.iload_n 1, 1) := by decide +kernel
theorem dX6_readMethod_26 : decode cX6_readMethod 26 = .ok (.iload_n 2, 1) := by decide +kernel
theorem dX6_readMethod_27 : decode cX6_readMethod 27 = .ok (.iastore, 1) := by decide +kernel
theorem dX6_readMethod_28 : decode cX6_readMethod 28 = .ok (.aload_n 0, 1) := by decide +kernel
theorem dX6_readMethod_29 : decode cX6_readMethod 29 = .ok (.getfield 26, 3) := by decide +kernel
theorem dX6_readMethod_32 : decode cX6_readMethod 32 = .ok (.getfield 88, 3) := by decide +kernel
theorem dX6_readMethod_35 : decode cX6_readMethod 35 = .ok (.iload_n 1, 1) := by decide +kernel
theorem dX6_readMethod_36 : decode cX6_readMethod 36 = .ok (.iconst 0, 1) := by decide +kernel
theorem dX6_readMethod_37 : decode cX6_readMethod 37 = .ok (.iastore, 1) := by decide +kernel
theorem dX6_readMethod_38 : decode cX6_readMethod 38 = .ok (.iload_n 2, 1) := by decide +kernel
theorem dX6_readMethod_39 : decode cX6_readMethod 39 = .ok (.sipush 255, 3) := by decide +kernel
theorem dX6_readMethod_42 : decode cX6_readMethod 42 = .ok (.if_icmp .eq 14, 3) := by decide +kernel
theorem dX6_readMethod_45 : decode cX6_readMethod 45 = .ok (.aload_n 0, 1) := by decide +kernel
theorem dX6_readMethod_46 : decode cX6_readMethod 46 = .ok (.getfield 26, 3) := by decide +kernel
theorem dX6_readMethod_49 : decode cX6_readMethod 49 = .ok (.iload_n 1, 1) := by decide +kernel
theorem dX6_readMethod_50 : decode cX6_readMethod 50 = .ok (.iload_n 2, 1) := by decide +kernel
theorem dX6_readMethod_51 : decode cX6_readMethod 51 = .ok (.iconst 1, 1) := by decide +kernel
theorem dX6_readMethod_52 : decode cX6_readMethod 52 = .ok (.iadd, 1) := by decide +kernel
theorem dX6_readMethod_53 : decode cX6_readMethod 53 = .ok (.invokevirtual 91, 3) := by decide +kernel
theorem dX6_readMethod_56 : decode cX6_readMethod 56 = .ok (.aload_n 0, 1) := by decide +kernel
theorem dX6_readMethod_57 : decode cX6_readMethod 57 = .ok (.iconst 0, 1) := by decide +kernel
theorem dX6_readMethod_58 : decode cX6_readMethod 58 = .ok (.bipush 7, 2) := by decide +kernel
theorem dX6_readMethod_60 : decode cX6_readMethod 60 = .ok (.iconst (-1), 1) := by decide +kernel
theorem dX6_readMethod_61 : decode cX6_readMethod 61 = .ok (.invokevirtual 34, 3) := by decide +kernel
theorem dX6_readMethod_64 : decode cX6_readMethod 64 = .ok (.istore_n 3, 1) := by decide +kernel
theorem dX6_readMethod_65 : decode cX6_readMethod 65 = .ok (.iconst 0, 1) := by decide +kernel
theorem dX6_readMethod_66 : decode cX6_readMethod 66 = .ok (.istore 4, 2) := by decide +kernel
theorem dX6_readMethod_68 : decode cX6_readMethod 68 = .ok (.iload 4, 2) := by decide +kernel
theorem dX6_readMethod_70 : decode cX6_readMethod 70 = .ok (.iload_n 3, 1) := by decide +kernel
theorem dX6_readMethod_71 : decode cX6_readMethod 71 = .ok (.if_icmp .ge 30, 3) := by decide +kernel
theorem dX6_readMethod_74 : decode cX6_readMethod 74 = .ok (.aload_n 0, 1) := by decide +kernel
theorem dX6_readMethod_75 : decode cX6_readMethod 75 = .ok (.getfield 31, 3) := by decide +kernel
theorem dX6_readMethod_78 : decode cX6_readMethod 78 = .ok (.iconst (-1), 1) := by decide +kernel
theorem dX6_readMethod_79 : decode cX6_readMethod 79 = .ok (.if_icmp .ne 22, 3) := by decide +kernel
theorem dX6_readMethod_82 : decode cX6_readMethod 82 = .ok (.aload_n 0, 1) := by decide +kernel
theorem dX6_readMethod_83 : decode cX6_readMethod 83 = .ok (.getfield 26, 3) := by decide +kernel
theorem dX6_readMethod_86 : decode cX6_readMethod 86 = .ok (.iload_n 1, 1) := by decide +kernel
theorem dX6_readMethod_87 : decode cX6_readMethod 87 = .ok (.aload_n 0, 1) := by decide +kernel
theorem dX6_readMethod_88 : decode cX6_readMethod 88 = .ok (.iconst (-1), 1) := by decide +kernel
theorem dX6_readMethod_89 : decode cX6_readMethod 89 = .ok (.invokevirtual 76, 3) := by decide +kernel
theorem dX6_readMethod_92 : decode cX6_readMethod 92 = .ok (.invokevirtual 91, 3) := by decide +kernel
theorem dX6_readMethod_95 : decode cX6_readMethod 95 = .ok (.iinc 4 1, 3) := by decide +kernel
theorem dX6_readMethod_98 : decode cX6_readMethod 98 = .ok (.goto (-30), 3) := by decide +kernel
theorem dX6_readMethod_101 : decode cX6_readMethod 101 = .ok (.aload_n 0, 1) := by decide +kernel
theorem dX6_readMethod_102 : decode cX6_readMethod 102 = .ok (.getfield 26, 3) := by decide +kernel
theorem dX6_readMethod_105 : decode cX6_readMethod 105 = .ok (.getfield 94, 3) := by decide +kernel
theorem dX6_readMethod_108 : decode cX6_readMethod 108 = .ok (.iload_n 1, 1) := by decide +kernel
theorem dX6_readMethod_109 : decode cX6_readMethod 109 = .ok (.aload_n 0, 1) := by decide +kernel
theorem dX6_readMethod_110 : decode cX6_readMethod 110 = .ok (.sipush 255, 3) := by decide +kernel
theorem dX6_readMethod_113 : decode cX6_readMethod 113 = .ok (.invokevirtual 76, 3) := by decide +kernel
theorem dX6_readMethod_116 : decode cX6_readMethod 116 = .ok (.iastore, 1) := by decide +kernel
theorem dX6_readMethod_117 : decode cX6_readMethod 117 = .ok (.aload_n 0, 1) := by decide +kernel
theorem dX6_readMethod_118 : decode cX6_readMethod 118 = .ok (.getfield 26, 3) := by decide +kernel
theorem dX6_readMethod_121 : decode cX6_readMethod 121 = .ok (.getfield 97, 3) := by decide +kernel
theorem dX6_readMethod_124 : decode cX6_readMethod 124 = .ok (.iload_n 1, 1) := by decide +kernel
theorem dX6_readMethod_125 : decode cX6_readMethod 125 = .ok (.aload_n 0, 1) := by decide +kernel
theorem dX6_readMethod_126 : decode cX6_readMethod 126 = .ok (.aload_n 0, 1) := by decide +kernel
theorem dX6_readMethod_127 : decode cX6_readMethod 127 = .ok (.getfield 26, 3) := by decide +kernel
theorem dX6_readMethod_130 : decode cX6_readMethod 130 = .ok (.getfield 88, 3) := by decide +kernel
theorem dX6_readMethod_133 : decode cX6_readMethod 133 = .ok (.iload_n 1, 1) := by decide +kernel
theorem dX6_readMethod_134 : decode cX6_readMethod 134 = .ok (.iaload, 1) := by decide +kernel
theorem dX6_readMethod_135 : decode cX6_readMethod 135 = .ok (.bipush 12, 2) := by decide +kernel
theorem dX6_readMethod_137 : decode cX6_readMethod 137 = .ok (.iconst (-1), 1) := by decide +kernel
theorem dX6_readMethod_138 : decode cX6_readMethod 138 = .ok (.invokevirtual 34, 3) := by decide +kernel
theorem dX6_readMethod_141 : decode cX6_readMethod 141 = .ok (.iastore, 1) := by decide +kernel
theorem dX6_readMethod_142 : decode cX6_readMethod 142 = .ok (.aload_n 0, 1) := by decide +kernel
theorem dX6_readMethod_143 : decode cX6_readMethod 143 = .ok (.getfield 26, 3) := by decide +kernel
theorem dX6_readMethod_146 : decode cX6_readMethod 146 = .ok (.getfield 100, 3) := by decide +kernel
theorem dX6_readMethod_149 : decode cX6_readMethod 149 = .ok (.iload_n 1, 1) := by decide +kernel
theorem dX6_readMethod_150 : decode cX6_readMethod 150 = .ok (.aload_n 0, 1) := by decide +kernel
theorem dX6_readMethod_151 : decode cX6_readMethod 151 = .ok (.iconst 0, 1) := by decide +kernel
theorem dX6_readMethod_152 : decode cX6_readMethod 152 = .ok (.bipush 12, 2) := by decide +kernel
theorem dX6_readMethod_154 : decode cX6_readMethod 154 = .ok (.aload_n 0, 1) := by decide +kernel
theorem dX6_readMethod_155 : decode cX6_readMethod 155 = .ok (.getfield 26, 3) := by decide +kernel
theorem dX6_readMethod_158 : decode cX6_readMethod 158 = .ok (.getfield 97, 3) := by decide +kernel
theorem dX6_readMethod_161 : decode cX6_readMethod 161 = .ok (.iload_n 1, 1) := by decide +kernel
theorem dX6_readMethod_162 : decode cX6_readMethod 162 = .ok (.iaload, 1) := by decide +kernel
theorem dX6_readMethod_163 : decode cX6_readMethod 163 = .ok (.isub, 1) := by decide +kernel
theorem dX6_readMethod_164 : decode cX6_readMethod 164 = .ok (.iconst (-1), 1) := by decide +kernel
theorem dX6_readMethod_165 : decode cX6_readMethod 165 = .ok (.invokevirtual 34, 3) := by decide +kernel
theorem dX6_readMethod_168 : decode cX6_readMethod 168 = .ok (.iastore, 1) := by decide +kernel
theorem dX6_readMethod_169 : decode cX6_readMethod 169 = .ok (.aload_n 0, 1) := by decide +kernel
theorem dX6_readMethod_170 : decode cX6_readMethod 170 = .ok (.getfield 26, 3) := by decide +kernel
theorem dX6_readMethod_173 : decode cX6_readMethod 173 = .ok (.getfield 103, 3) := by decide +kernel
theorem dX6_readMethod_176 : decode cX6_readMethod 176 = .ok (.iload_n 1, 1) := by decide +kernel
theorem dX6_readMethod_177 : decode cX6_readMethod 177 = .ok (.aload_n 0, 1) := by decide +kernel
theorem dX6_readMethod_178 : decode cX6_readMethod 178 = .ok (.invokevirtual 106, 3) := by decide +kernel
theorem dX6_readMethod_181 : decode cX6_readMethod 181 = .ok (.iastore, 1) := by decide +kernel
theorem dX6_readMethod_182 : decode cX6_readMethod 182 = .ok (.aload_n 0, 1) := by decide +kernel
theorem dX6_readMethod_183 : decode cX6_readMethod 183 = .ok (.getfield 26, 3) := by decide +kernel
theorem dX6_readMethod_186 : decode cX6_readMethod 186 = .ok (.getfield 110, 3) := by decide +kernel
theorem dX6_readMethod_189 : decode cX6_readMethod 189 = .ok (.iload_n 1, 1) := by decide +kernel
theorem dX6_readMethod_190 : decode cX6_readMethod 190 = .ok (.aload_n 0, 1) := by decide +kernel
theorem dX6_readMethod_191 : decode cX6_readMethod 191 = .ok (.getfield 27, 3) := by decide +kernel
theorem dX6_readMethod_194 : decode cX6_readMethod 194 = .ok (.iastore, 1) := by decide +kernel
theorem dX6_readMethod_195 : decode cX6_readMethod 195 = .ok (.aload_n 0, 1) := by decide +kernel
theorem dX6_readMethod_196 : decode cX6_readMethod 196 = .ok (.iload_n 1, 1) := by decide +kernel
theorem dX6_readMethod_197 : decode cX6_readMethod 197 = .ok (.invokevirtual 113, 3) := by decide +kernel
theorem dX6_readMethod_200 : decode cX6_readMethod 200 = .ok (.aload_n 0, 1) := by decide +kernel
theorem dX6_readMethod_201 : decode cX6_readMethod 201 = .ok (.getfield 26, 3) := by decide +kernel
theorem dX6_readMethod_204 : decode cX6_readMethod 204 = .ok (.getfield 116, 3) := by decide +kernel
theorem dX6_readMethod_207 : decode cX6_readMethod 207 = .ok (.iload_n 1, 1) := by decide +kernel
theorem dX6_readMethod_208 : decode cX6_readMethod 208 = .ok (.aload_n 0, 1) := by decide +kernel
theorem dX6_readMethod_209 : decode cX6_readMethod 209 = .ok (.iconst 0, 1) := by decide +kernel
theorem dX6_readMethod_210 : decode cX6_readMethod 210 = .ok (.bipush 8, 2) := by decide +kernel
theorem dX6_readMethod_212 : decode cX6_readMethod 212 = .ok (.iconst (-1), 1) := by decide +kernel
theorem dX6_readMethod_213 : decode cX6_readMethod 213 = .ok (.invokevirtual 34, 3) := by decide +kernel
theorem dX6_readMethod_216 : decode cX6_readMethod 216 = .ok (.iastore, 1) := by decide +kernel
theorem dX6_readMethod_217 : decode cX6_readMethod 217 = .ok (.aload_n 0, 1) := by decide +kernel
theorem dX6_readMethod_218 : decode cX6_readMethod 218 = .ok (.getfield 26, 3) := by decide +kernel
theorem dX6_readMethod_221 : decode cX6_readMethod 221 = .ok (.getfield 119, 3) := by decide +kernel
theorem dX6_readMethod_224 : decode cX6_readMethod 224 = .ok (.iload_n 1, 1) := by decide +kernel
theorem dX6_readMethod_225 : decode cX6_readMethod 225 = .ok (.aload_n 0, 1) := by decide +kernel
theorem dX6_readMethod_226 : decode cX6_readMethod 226 = .ok (.getfield 27, 3) := by decide +kernel
theorem dX6_readMethod_229 : decode cX6_readMethod 229 = .ok (.iastore, 1) := by decide +kernel
theorem dX6_readMethod_230 : decode cX6_readMethod 230 = .ok (.iconst 0, 1) := by decide +kernel
theorem dX6_readMethod_231 : decode cX6_readMethod 231 = .ok (.istore 4, 2) := by decide +kernel
theorem dX6_readMethod_233 : decode cX6_readMethod 233 = .ok (.iload 4, 2) := by decide +kernel
theorem dX6_readMethod_235 : decode cX6_readMethod 235 = .ok (.aload_n 0, 1) := by decide +kernel
theorem dX6_readMethod_236 : decode cX6_readMethod 236 = .ok (.getfield 26, 3) := by decide +kernel
theorem dX6_readMethod_239 : decode cX6_readMethod 239 = .ok (.getfield 116, 3) := by decide +kernel
theorem dX6_readMethod_242 : decode cX6_readMethod 242 = .ok (.iload_n 1, 1) := by decide +kernel
theorem dX6_readMethod_243 : decode cX6_readMethod 243 = .ok (.iaload, 1) := by decide +kernel
theorem dX6_readMethod_244 : decode cX6_readMethod 244 = .ok (.if_icmp .ge 35, 3) := by decide +kernel
theorem dX6_readMethod_247 : decode cX6_readMethod 247 = .ok (.aload_n 0, 1) := by decide +kernel
theorem dX6_readMethod_248 : decode cX6_readMethod 248 = .ok (.iconst 4, 1) := by decide +kernel
theorem dX6_readMethod_249 : decode cX6_readMethod 249 = .ok (.invokevirtual 122, 3) := by decide +kernel
theorem dX6_readMethod_252 : decode cX6_readMethod 252 = .ok (.aload_n 0, 1) := by decide +kernel
theorem dX6_readMethod_253 : decode cX6_readMethod 253 = .ok (.iconst 0, 1) := by decide +kernel
theorem dX6_readMethod_254 : decode cX6_readMethod 254 = .ok (.aload_n 0, 1) := by decide +kernel
theorem dX6_readMethod_255 : decode cX6_readMethod 255 = .ok (.getfield 21, 3) := by decide +kernel
theorem dX6_readMethod_258 : decode cX6_readMethod 258 = .ok (.getfield 38, 3) := by decide +kernel
theorem dX6_readMethod_261 : decode cX6_readMethod 261 = .ok (.iconst 1, 1) := by decide +kernel
theorem dX6_readMethod_262 : decode cX6_readMethod 262 = .ok (.isub, 1) := by decide +kernel
theorem dX6_readMethod_263 : decode cX6_readMethod 263 = .ok (.iconst (-1), 1) := by decide +kernel
theorem dX6_readMethod_264 : decode cX6_readMethod 264 = .ok (.invokevirtual 34, 3) := by decide +kernel
theorem dX6_readMethod_267 : decode cX6_readMethod 267 = .ok (.pop, 1) := by decide +kernel
theorem dX6_readMethod_268 : decode cX6_readMethod 268 = .ok (.aload_n 0, 1) := by decide +kernel
theorem dX6_readMethod_269 : decode cX6_readMethod 269 = .ok (.iconst 2, 1) := by decide +kernel
theorem dX6_readMethod_270 : decode cX6_readMethod 270 = .ok (.invokevirtual 122, 3) := by decide +kernel
theorem dX6_readMethod_273 : decode cX6_readMethod 273 = .ok (.iinc 4 1, 3) := by decide +kernel
theorem dX6_readMethod_276 : decode cX6_readMethod 276 = .ok (.goto (-43), 3) := by decide +kernel
theorem dX6_readMethod_279 : decode cX6_readMethod 279 = .ok (.return_, 1) := by decide +kernel
def wp_X6_readMethod : List Cond := .code yX6_readMethod cX6_readMethod 5 none :: ((((((((([.fieldLink RX6 26 "SteadyMachine$Reader" "methods" "LSteadyMachine$Methods;", .fieldLink RX6 116 "SteadyMachine$Methods" "handlers" "[I", .fieldLink RX6 21 "SteadyMachine$Reader" "classes" "LSteadyMachine$Classes;", .fieldLink RX6 38 "SteadyMachine$Classes" "many" "I", .fieldLink RX6 94 "SteadyMachine$Methods" "gives" "[I", .fieldLink RX6 97 "SteadyMachine$Methods" "locals" "[I", .fieldLink RX6 88 "SteadyMachine$Methods" "params" "[I", .fieldLink RX6 100 "SteadyMachine$Methods" "stack" "[I", .fieldLink RX6 103 "SteadyMachine$Methods" "length" "[I", .fieldLink RX6 110 "SteadyMachine$Methods" "code" "[I", .fieldLink RX6 27 "SteadyMachine$Reader" "at" "I", .fieldLink RX6 119 "SteadyMachine$Methods" "handlerPlace" "[I", .fieldLink RX6 31 "SteadyMachine$Reader" "wrong" "I", .fieldLink RX6 85 "SteadyMachine$Methods" "owner" "[I"] ++ (wsV RX6 122 RX6 yX6_skip wp_X6_skip)) ++ (wsV RX6 34 RX6 yX6_number wp_X6_number)) ++ (wsV RX6 76 RX6 yX6_type wp_X6_type)) ++ (wsV RX6 106 RX6 yX6_codeLength wp_X6_codeLength)) ++ (wsV RX6 113 RX6 yX6_readCode wp_X6_readCode)) ++ (wsV RX6 91 RX4 yX4_addParam wp_X4_addParam)) ++ wsX00) ++ wsX40) ++ wsX60)
theorem wq_X6_readMethod : wp_X6_readMethod.all goodWord = true := wa_c rfl (wa_a (wa_a (wa_a (wa_a (wa_a (wa_a (wa_a (wa_a (wa_a (by decide +kernel) (wa_V wq_X6_skip)) (wa_V wq_X6_number)) (wa_V wq_X6_type)) (wa_V wq_X6_codeLength)) (wa_V wq_X6_readCode)) (wa_V wq_X4_addParam)) uq_X0) uq_X4) uq_X6)
theorem wt_X6_readMethod : GoodIn lw_tbl wp_X6_readMethod := wm_c (List.mem_of_getElem? (i := 672) (by decide +kernel)) rfl (wm_a (wm_a (wm_a (wm_a (wm_a (wm_a (wm_a (wm_a (wm_a (goodIn_r _ [339, 260, 338, 172, 236, 242, 231, 245, 257, 252, 340, 265, 341, 228] (by decide +kernel) (by decide +kernel)) (wm_a (goodIn_r _ [691, 693, 8, 140] (by decide +kernel) (by decide +kernel)) wt_X6_skip)) (wm_a (goodIn_r _ [649, 651, 1, 140] (by decide +kernel) (by decide +kernel)) wt_X6_number)) (wm_a (goodIn_r _ [665, 667, 3, 140] (by decide +kernel) (by decide +kernel)) wt_X6_type)) (wm_a (goodIn_r _ [677, 679, 5, 140] (by decide +kernel) (by decide +kernel)) wt_X6_codeLength)) (wm_a (goodIn_r _ [681, 683, 6, 140] (by decide +kernel) (by decide +kernel)) wt_X6_readCode)) (wm_a (goodIn_r _ [673, 674, 675, 139] (by decide +kernel) (by decide +kernel)) wt_X4_addParam)) ut_X0) ut_X4) ut_X6)
theorem wg_X6_readMethod_X6_skip_122 : GoodIn wp_X6_readMethod (wsV RX6 122 RX6 yX6_skip wp_X6_skip) := goodIn_sub (fun w h => List.mem_cons_of_mem _ (List.mem_append_left _ (List.mem_append_left _ (List.mem_append_left _ (List.mem_append_left _ (List.mem_append_left _ (List.mem_append_left _ (List.mem_append_left _ (List.mem_append_left _ (List.mem_append_right _ h)))))))))) (wa_V wq_X6_skip)
theorem wg_X6_readMethod_X6_number_34 : GoodIn wp_X6_readMethod (wsV RX6 34 RX6 yX6_number wp_X6_number) := goodIn_sub (fun w h => List.mem_cons_of_mem _ (List.mem_append_left _ (List.mem_append_left _ (List.mem_append_left _ (List.mem_append_left _ (List.mem_append_left _ (List.mem_append_left _ (List.mem_append_left _ (List.mem_append_right _ h))))))))) (wa_V wq_X6_number)
theorem wg_X6_readMethod_X6_type_76 : GoodIn wp_X6_readMethod (wsV RX6 76 RX6 yX6_type wp_X6_type) := goodIn_sub (fun w h => List.mem_cons_of_mem _ (List.mem_append_left _ (List.mem_append_left _ (List.mem_append_left _ (List.mem_append_left _ (List.mem_append_left _ (List.mem_append_left _ (List.mem_append_right _ h)))))))) (wa_V wq_X6_type)
theorem wg_X6_readMethod_X6_codeLength_106 : GoodIn wp_X6_readMethod (wsV RX6 106 RX6 yX6_codeLength wp_X6_codeLength) := goodIn_sub (fun w h => List.mem_cons_of_mem _ (List.mem_append_left _ (List.mem_append_left _ (List.mem_append_left _ (List.mem_append_left _ (List.mem_append_left _ (List.mem_append_right _ h))))))) (wa_V wq_X6_codeLength)
theorem wg_X6_readMethod_X6_readCode_113 : GoodIn wp_X6_readMethod (wsV RX6 113 RX6 yX6_readCode wp_X6_readCode) := goodIn_sub (fun w h => List.mem_cons_of_mem _ (List.mem_append_left _ (List.mem_append_left _ (List.mem_append_left _ (List.mem_append_left _ (List.mem_append_right _ h)))))) (wa_V wq_X6_readCode)
theorem wg_X6_readMethod_X4_addParam_91 : GoodIn wp_X6_readMethod (wsV RX6 91 RX4 yX4_addParam wp_X4_addParam) := goodIn_sub (fun w h => List.mem_cons_of_mem _ (List.mem_append_left _ (List.mem_append_left _ (List.mem_append_left _ (List.mem_append_right _ h))))) (wa_V wq_X4_addParam)
theorem wi_X6_readMethod_X0 : ∀ w ∈ wsX00, w ∈ wp_X6_readMethod := fun w h => List.mem_cons_of_mem _ (List.mem_append_left _ (List.mem_append_left _ (List.mem_append_right _ h)))
theorem wi_X6_readMethod_X4 : ∀ w ∈ wsX40, w ∈ wp_X6_readMethod := fun w h => List.mem_cons_of_mem _ (List.mem_append_left _ (List.mem_append_right _ h))
theorem wi_X6_readMethod_X6 : ∀ w ∈ wsX60, w ∈ wp_X6_readMethod := fun w h => List.mem_cons_of_mem _ (List.mem_append_right _ h)
set_option maxHeartbeats 4000000 in
set_option maxRecDepth 100000 in
theorem c_X6_readMethod (l : Launch) (D : va_G) (sz t0 : Nat) (σ : sm_S) (α : sm_A) (p1 : Int32) (K : sm_S → Prop) (hF : mp_X6_readMethod σ p1 K) : Met l yX6_readMethod wp_X6_readMethod { frames := 5, cells := 0, slots := 0, locals := 115 } (sm_P sm_wX sm_tX 37 D sz t0 σ α [.ref (α.1 6), .int p1]) (va_Qv K (sm_B sm_wX D α) (sm_a α 37 sz)) 0 0 (sm_a α 37 sz) := by
  refine Met.ofW (cc := cX6_readMethod) (maxL := 5) (ret := none) (by decide) rfl ?_
  intro p e s m args below meth c s₁ B hml hv
  obtain ⟨rfl, hsz, hP, hK, hD0, hE⟩ := hv
  have hx := B.exec
  have hb := B.bytes
  have hr := B.returns
  have hts := atoms_spec (ws := wp_X6_readMethod) B.pre
  have hown : s.vm.findClass RX6 = some m.cls := findClass_of_methodNamed B.named
  have hlocks := B.notSynchronized
  subst hsz
  have hD : sm_D (sm_a α 37 s.heap.size) α 37 := hD0.own
  have hA : ∀ q : Nat, s.heap.size ≤ q → sm_a α 37 s.heap.size q := fun q h => Or.inr h
  generalize hAe : sm_a α 37 s.heap.size = A at hD hA hE ⊢
  have hS : va_S A s.heap s.heap [] := va_S.rf
  have in_X0 : ∀ w ∈ wsX00, w ∈ wp_X6_readMethod := wi_X6_readMethod_X0
  have in_X4 : ∀ w ∈ wsX40, w ∈ wp_X6_readMethod := wi_X6_readMethod_X4
  have in_X6 : ∀ w ∈ wsX60, w ∈ wp_X6_readMethod := wi_X6_readMethod_X6
  have k_0 := hts (.fieldLink RX6 26 "SteadyMachine$Reader" "methods" "LSteadyMachine$Methods;") (by decide +kernel)
  have k_1 := hts (.fieldLink RX6 116 "SteadyMachine$Methods" "handlers" "[I") (by decide +kernel)
  have k_2 := hts (.fieldLink RX6 21 "SteadyMachine$Reader" "classes" "LSteadyMachine$Classes;") (by decide +kernel)
  have k_3 := hts (.fieldLink RX6 38 "SteadyMachine$Classes" "many" "I") (by decide +kernel)
  have k_4 := hts (.fieldLink RX6 94 "SteadyMachine$Methods" "gives" "[I") (by decide +kernel)
  have k_5 := hts (.fieldLink RX6 97 "SteadyMachine$Methods" "locals" "[I") (by decide +kernel)
  have k_6 := hts (.fieldLink RX6 88 "SteadyMachine$Methods" "params" "[I") (by decide +kernel)
  have k_7 := hts (.fieldLink RX6 100 "SteadyMachine$Methods" "stack" "[I") (by decide +kernel)
  have k_8 := hts (.fieldLink RX6 103 "SteadyMachine$Methods" "length" "[I") (by decide +kernel)
  have k_9 := hts (.fieldLink RX6 110 "SteadyMachine$Methods" "code" "[I") (by decide +kernel)
  have k_10 := hts (.fieldLink RX6 27 "SteadyMachine$Reader" "at" "I") (by decide +kernel)
  have k_11 := hts (.fieldLink RX6 119 "SteadyMachine$Methods" "handlerPlace" "[I") (by decide +kernel)
  have k_12 := hts (.fieldLink RX6 31 "SteadyMachine$Reader" "wrong" "I") (by decide +kernel)
  have k_13 := hts (.fieldLink RX6 85 "SteadyMachine$Methods" "owner" "[I") (by decide +kernel)
  have hl := lv_entry ([.ref (α.1 6), .int p1]) (n := 5) (Nat.le_of_ble_eq_true rfl)
  rw [lg_entry_eq]
  generalize (lg_sl ([.ref (α.1 6), .int p1]) ++ List.replicate (5 - (lg_sl ([.ref (α.1 6), .int p1])).length) Slot.unset).toArray = ls at hl ⊢
  have hl : lv_has ls 5 [(0, .ref (α.1 6)), (1, .int p1)] := hl
  have B233 : ∀ (n : Nat) (σ : sm_S) (x1 : Int32) (x4 : Int32), mp_X6_readMethod_233 K n σ x1 x4 → sm_J p l e (headSpec wp_X6_readMethod { frames := 5, cells := 0, slots := 0, locals := 115 }).room s m ([.ref (α.1 6), .int p1] : List Value).toArray below meth c (MQ below (va_Qv K (sm_B sm_wX D α) A) ([.ref (α.1 6), .int p1] : List Value).toArray s 0 0 A) D A 5 (sm_wX σ α) 233 [(0, .ref (α.1 6)), (1, .int x1), (4, .int x4)] [] := by
    intro n233
    induction n233 with
    | zero =>
      intro σ x1 x4 hF
      exact hF.elim
    | succ n233 ih233 =>
      intro σ x1 x4 hF H locs ls hP hS hl
      unfold mp_X6_readMethod_233 at hF
      refine lv_iload hx hb dX6_readMethod_233 (lv_at hl 2 rfl) ?_
      refine lv_aload_n hx hb dX6_readMethod_235 rfl (lv_at hl 0 rfl) ?_
      refine va_get (D := D) (ci := 6) (v := .ref (α.1 4)) (C := RX6) (T := TX6) (N := 5) hx hb hts in_X6 hown hK hP 6 (sm_gX6 σ α) rfl 2 (by decide) k_0 (fun _ h9 => h9) rfl dX6_readMethod_236 ?_
      refine va_get (D := D) (ci := 4) (v := .ref (α.1 28)) (C := RX4) (T := TX4) (N := 12) hx hb hts in_X4 hown hK hP 4 (sm_gX4 σ α) rfl 10 (by decide) k_1 (fun _ h9 => h9) rfl dX6_readMethod_239 ?_
      refine lv_iload_n hx hb dX6_readMethod_242 rfl (lv_at hl 1 rfl) ?_
      obtain ⟨h1, hF⟩ := hF
      refine va_iald (n := (σ.2.2.1 28)) (f := (σ.2.2.2.1 28)) hx hb hK hP 28 17 (sm_aX28 σ α) (sm_yX28 α) h1 dX6_readMethod_243 ?_
      refine lv_icmp_ge (tgt := 279) hx hb dX6_readMethod_244 (by decide) (fun h2 => ?_) (fun h2 => ?_)
      · replace hF := hF.1 h2
        exact W.vret hx hb hr (fun t ht hW => ⟨⟨σ, rfl, hF, (by unfold sm_B; rw [ht]; exact hP)⟩, hS.F ht⟩) hS.2.2 dX6_readMethod_279
      · replace hF := hF.2 h2
        refine lv_aload_n hx hb dX6_readMethod_247 rfl (lv_at hl 0 rfl) ?_
        refine lv_iconst (v := 4) hx hb dX6_readMethod_248 (by decide) ?_
        refine sm_vv (As := [.int 4]) (rest := []) hP hK hD hE hS hA ⟨hx, hb, hml, hown, hts⟩ hl.1 (c_X6_skip l D H.size t0 σ α 4 _ hF) (cwV 1 hts wg_X6_readMethod_X6_skip_122 rfl rfl rfl (by decide +kernel) ⟨Nat.le_of_ble_eq_true rfl, Nat.le_of_ble_eq_true rfl⟩) (va_recv hK hP (ci := 6) (q0 := 6) rfl (sm_gX6 σ α)) rfl rfl (Nat.le_of_ble_eq_true rfl) dX6_readMethod_249 ⟨Nat.zero_le _, Nat.zero_le _⟩ (fun σ3 H locs hF hP hS => ?_)
        refine lv_aload_n hx hb dX6_readMethod_252 rfl (lv_at hl 0 rfl) ?_
        refine lv_iconst (v := 0) hx hb dX6_readMethod_253 (by decide) ?_
        refine lv_aload_n hx hb dX6_readMethod_254 rfl (lv_at hl 0 rfl) ?_
        refine va_get (D := D) (ci := 6) (v := .ref (α.1 0)) (C := RX6) (T := TX6) (N := 5) hx hb hts in_X6 hown hK hP 6 (sm_gX6 σ3 α) rfl 1 (by decide) k_2 (fun _ h9 => h9) rfl dX6_readMethod_255 ?_
        refine va_get (D := D) (ci := 0) (v := .int (σ3.1 0)) (C := RX0) (T := TX0) (N := 7) hx hb hts in_X0 hown hK hP 0 (sm_gX0 σ3 α) rfl 0 (by decide) k_3 (fun _ h9 => h9) rfl dX6_readMethod_258 ?_
        refine lv_iconst (v := 1) hx hb dX6_readMethod_261 (by decide) ?_
        refine lv_isub hx hb dX6_readMethod_262 ?_
        refine lv_iconst (v := -1) hx hb dX6_readMethod_263 (by decide) ?_
        refine sm_vi (As := [.int 0, .int ((σ3.1 0) - 1), .int (-1)]) (rest := []) hP hK hD hE hS hA ⟨hx, hb, hml, hown, hts⟩ hl.1 (c_X6_number l D H.size t0 σ3 α 0 ((σ3.1 0) - 1) (-1) _ hF) (cwV 3 hts wg_X6_readMethod_X6_number_34 rfl rfl rfl (by decide +kernel) ⟨Nat.le_of_ble_eq_true rfl, Nat.le_of_ble_eq_true rfl⟩) (va_recv hK hP (ci := 6) (q0 := 6) rfl (sm_gX6 σ3 α)) rfl rfl (Nat.le_of_ble_eq_true rfl) dX6_readMethod_264 ⟨Nat.zero_le _, Nat.zero_le _⟩ (fun r5 σ4 H locs hF hP hS => ?_)
        refine lv_pop hx hb dX6_readMethod_267 rfl ?_
        refine lv_aload_n hx hb dX6_readMethod_268 rfl (lv_at hl 0 rfl) ?_
        refine lv_iconst (v := 2) hx hb dX6_readMethod_269 (by decide) ?_
        refine sm_vv (As := [.int 2]) (rest := []) hP hK hD hE hS hA ⟨hx, hb, hml, hown, hts⟩ hl.1 (c_X6_skip l D H.size t0 σ4 α 2 _ hF) (cwV 1 hts wg_X6_readMethod_X6_skip_122 rfl rfl rfl (by decide +kernel) ⟨Nat.le_of_ble_eq_true rfl, Nat.le_of_ble_eq_true rfl⟩) (va_recv hK hP (ci := 6) (q0 := 6) rfl (sm_gX6 σ4 α)) rfl rfl (Nat.le_of_ble_eq_true rfl) dX6_readMethod_270 ⟨Nat.zero_le _, Nat.zero_le _⟩ (fun σ6 H locs hF hP hS => ?_)
        obtain ⟨v7, ev7⟩ : ∃ y : Int32, y = x4 + 1 := ⟨_, rfl⟩
        replace hF := hF v7 ev7
        refine lv_iinc (v := v7) (lv' := [(4, .int v7), (0, .ref (α.1 6)), (1, .int x1)]) hx hb dX6_readMethod_273 hl (k := 2) rfl (by rw [ev7]; rfl) (by decide) rfl (fun ls hl => ?_)
        refine lv_goto (tgt := 233) hx hb dX6_readMethod_276 (by decide) ?_
        exact ih233 σ6 x1 v7 hF H locs ls hP hS (lv_sub hl [1, 2, 0] rfl)
  have B101 : ∀ (σ : sm_S) (x1 : Int32), mp_X6_readMethod_101 K σ x1 → sm_J p l e (headSpec wp_X6_readMethod { frames := 5, cells := 0, slots := 0, locals := 115 }).room s m ([.ref (α.1 6), .int p1] : List Value).toArray below meth c (MQ below (va_Qv K (sm_B sm_wX D α) A) ([.ref (α.1 6), .int p1] : List Value).toArray s 0 0 A) D A 5 (sm_wX σ α) 101 [(0, .ref (α.1 6)), (1, .int x1)] [] := by
    intro σ x1 hF H locs ls hP hS hl
    unfold mp_X6_readMethod_101 at hF
    refine lv_aload_n hx hb dX6_readMethod_101 rfl (lv_at hl 0 rfl) ?_
    refine va_get (D := D) (ci := 6) (v := .ref (α.1 4)) (C := RX6) (T := TX6) (N := 5) hx hb hts in_X6 hown hK hP 6 (sm_gX6 σ α) rfl 2 (by decide) k_0 (fun _ h9 => h9) rfl dX6_readMethod_102 ?_
    refine va_get (D := D) (ci := 4) (v := .ref (α.1 23)) (C := RX4) (T := TX4) (N := 12) hx hb hts in_X4 hown hK hP 4 (sm_gX4 σ α) rfl 5 (by decide) k_4 (fun _ h9 => h9) rfl dX6_readMethod_105 ?_
    refine lv_iload_n hx hb dX6_readMethod_108 rfl (lv_at hl 1 rfl) ?_
    refine lv_aload_n hx hb dX6_readMethod_109 rfl (lv_at hl 0 rfl) ?_
    refine lv_sipush (v := 255) hx hb dX6_readMethod_110 (by decide) ?_
    refine sm_vi (As := [.int 255]) (rest := [.int x1, .ref (α.1 23)]) hP hK hD hE hS hA ⟨hx, hb, hml, hown, hts⟩ hl.1 (c_X6_type l D H.size t0 σ α 255 _ hF) (cwV 1 hts wg_X6_readMethod_X6_type_76 rfl rfl rfl (by decide +kernel) ⟨Nat.le_of_ble_eq_true rfl, Nat.le_of_ble_eq_true rfl⟩) (va_recv hK hP (ci := 6) (q0 := 6) rfl (sm_gX6 σ α)) rfl rfl (Nat.le_of_ble_eq_true rfl) dX6_readMethod_113 ⟨Nat.zero_le _, Nat.zero_le _⟩ (fun r9 σ8 H locs hF hP hS => ?_)
    obtain ⟨h10, hF⟩ := hF
    refine va_iast (n := (σ8.2.2.1 23)) (f := (σ8.2.2.2.1 23)) (x := r9) hx hb hK hP (hD.to (sm_wX_m _ _)) hS 23 12 (sm_aX23 σ8 α) (sm_yX23 α) h10 dX6_readMethod_116 (fun H locs hP _ hS => ?_)
    rw [sm_rX23] at hP
    obtain ⟨σ11, eσ11⟩ : ∃ x : sm_S, x = sm_r σ8 23 (upd (σ8.2.2.2.1 23) x1.toNatClampNeg r9) := ⟨_, rfl⟩
    replace hF := hF σ11 eσ11
    rw [← eσ11] at hP
    refine lv_aload_n hx hb dX6_readMethod_117 rfl (lv_at hl 0 rfl) ?_
    refine va_get (D := D) (ci := 6) (v := .ref (α.1 4)) (C := RX6) (T := TX6) (N := 5) hx hb hts in_X6 hown hK hP 6 (sm_gX6 σ11 α) rfl 2 (by decide) k_0 (fun _ h9 => h9) rfl dX6_readMethod_118 ?_
    refine va_get (D := D) (ci := 4) (v := .ref (α.1 24)) (C := RX4) (T := TX4) (N := 12) hx hb hts in_X4 hown hK hP 4 (sm_gX4 σ11 α) rfl 6 (by decide) k_5 (fun _ h9 => h9) rfl dX6_readMethod_121 ?_
    refine lv_iload_n hx hb dX6_readMethod_124 rfl (lv_at hl 1 rfl) ?_
    refine lv_aload_n hx hb dX6_readMethod_125 rfl (lv_at hl 0 rfl) ?_
    refine lv_aload_n hx hb dX6_readMethod_126 rfl (lv_at hl 0 rfl) ?_
    refine va_get (D := D) (ci := 6) (v := .ref (α.1 4)) (C := RX6) (T := TX6) (N := 5) hx hb hts in_X6 hown hK hP 6 (sm_gX6 σ11 α) rfl 2 (by decide) k_0 (fun _ h9 => h9) rfl dX6_readMethod_127 ?_
    refine va_get (D := D) (ci := 4) (v := .ref (α.1 21)) (C := RX4) (T := TX4) (N := 12) hx hb hts in_X4 hown hK hP 4 (sm_gX4 σ11 α) rfl 3 (by decide) k_6 (fun _ h9 => h9) rfl dX6_readMethod_130 ?_
    refine lv_iload_n hx hb dX6_readMethod_133 rfl (lv_at hl 1 rfl) ?_
    obtain ⟨h12, hF⟩ := hF
    refine va_iald (n := (σ11.2.2.1 21)) (f := (σ11.2.2.2.1 21)) hx hb hK hP 21 10 (sm_aX21 σ11 α) (sm_yX21 α) h12 dX6_readMethod_134 ?_
    refine lv_bipush (v := 12) hx hb dX6_readMethod_135 (by decide) ?_
    refine lv_iconst (v := -1) hx hb dX6_readMethod_137 (by decide) ?_
    refine sm_vi (As := [.int ((σ11.2.2.2.1 21) x1.toNatClampNeg), .int 12, .int (-1)]) (rest := [.int x1, .ref (α.1 24)]) hP hK hD hE hS hA ⟨hx, hb, hml, hown, hts⟩ hl.1 (c_X6_number l D H.size t0 σ11 α ((σ11.2.2.2.1 21) x1.toNatClampNeg) 12 (-1) _ hF) (cwV 3 hts wg_X6_readMethod_X6_number_34 rfl rfl rfl (by decide +kernel) ⟨Nat.le_of_ble_eq_true rfl, Nat.le_of_ble_eq_true rfl⟩) (va_recv hK hP (ci := 6) (q0 := 6) rfl (sm_gX6 σ11 α)) rfl rfl (Nat.le_of_ble_eq_true rfl) dX6_readMethod_138 ⟨Nat.zero_le _, Nat.zero_le _⟩ (fun r14 σ13 H locs hF hP hS => ?_)
    obtain ⟨h15, hF⟩ := hF
    refine va_iast (n := (σ13.2.2.1 24)) (f := (σ13.2.2.2.1 24)) (x := r14) hx hb hK hP (hD.to (sm_wX_m _ _)) hS 24 13 (sm_aX24 σ13 α) (sm_yX24 α) h15 dX6_readMethod_141 (fun H locs hP _ hS => ?_)
    rw [sm_rX24] at hP
    obtain ⟨σ16, eσ16⟩ : ∃ x : sm_S, x = sm_r σ13 24 (upd (σ13.2.2.2.1 24) x1.toNatClampNeg r14) := ⟨_, rfl⟩
    replace hF := hF σ16 eσ16
    rw [← eσ16] at hP
    refine lv_aload_n hx hb dX6_readMethod_142 rfl (lv_at hl 0 rfl) ?_
    refine va_get (D := D) (ci := 6) (v := .ref (α.1 4)) (C := RX6) (T := TX6) (N := 5) hx hb hts in_X6 hown hK hP 6 (sm_gX6 σ16 α) rfl 2 (by decide) k_0 (fun _ h9 => h9) rfl dX6_readMethod_143 ?_
    refine va_get (D := D) (ci := 4) (v := .ref (α.1 25)) (C := RX4) (T := TX4) (N := 12) hx hb hts in_X4 hown hK hP 4 (sm_gX4 σ16 α) rfl 7 (by decide) k_7 (fun _ h9 => h9) rfl dX6_readMethod_146 ?_
    refine lv_iload_n hx hb dX6_readMethod_149 rfl (lv_at hl 1 rfl) ?_
    refine lv_aload_n hx hb dX6_readMethod_150 rfl (lv_at hl 0 rfl) ?_
    refine lv_iconst (v := 0) hx hb dX6_readMethod_151 (by decide) ?_
    refine lv_bipush (v := 12) hx hb dX6_readMethod_152 (by decide) ?_
    refine lv_aload_n hx hb dX6_readMethod_154 rfl (lv_at hl 0 rfl) ?_
    refine va_get (D := D) (ci := 6) (v := .ref (α.1 4)) (C := RX6) (T := TX6) (N := 5) hx hb hts in_X6 hown hK hP 6 (sm_gX6 σ16 α) rfl 2 (by decide) k_0 (fun _ h9 => h9) rfl dX6_readMethod_155 ?_
    refine va_get (D := D) (ci := 4) (v := .ref (α.1 24)) (C := RX4) (T := TX4) (N := 12) hx hb hts in_X4 hown hK hP 4 (sm_gX4 σ16 α) rfl 6 (by decide) k_5 (fun _ h9 => h9) rfl dX6_readMethod_158 ?_
    refine lv_iload_n hx hb dX6_readMethod_161 rfl (lv_at hl 1 rfl) ?_
    obtain ⟨h17, hF⟩ := hF
    refine va_iald (n := (σ16.2.2.1 24)) (f := (σ16.2.2.2.1 24)) hx hb hK hP 24 13 (sm_aX24 σ16 α) (sm_yX24 α) h17 dX6_readMethod_162 ?_
    refine lv_isub hx hb dX6_readMethod_163 ?_
    refine lv_iconst (v := -1) hx hb dX6_readMethod_164 (by decide) ?_
    refine sm_vi (As := [.int 0, .int (12 - ((σ16.2.2.2.1 24) x1.toNatClampNeg)), .int (-1)]) (rest := [.int x1, .ref (α.1 25)]) hP hK hD hE hS hA ⟨hx, hb, hml, hown, hts⟩ hl.1 (c_X6_number l D H.size t0 σ16 α 0 (12 - ((σ16.2.2.2.1 24) x1.toNatClampNeg)) (-1) _ hF) (cwV 3 hts wg_X6_readMethod_X6_number_34 rfl rfl rfl (by decide +kernel) ⟨Nat.le_of_ble_eq_true rfl, Nat.le_of_ble_eq_true rfl⟩) (va_recv hK hP (ci := 6) (q0 := 6) rfl (sm_gX6 σ16 α)) rfl rfl (Nat.le_of_ble_eq_true rfl) dX6_readMethod_165 ⟨Nat.zero_le _, Nat.zero_le _⟩ (fun r19 σ18 H locs hF hP hS => ?_)
    obtain ⟨h20, hF⟩ := hF
    refine va_iast (n := (σ18.2.2.1 25)) (f := (σ18.2.2.2.1 25)) (x := r19) hx hb hK hP (hD.to (sm_wX_m _ _)) hS 25 14 (sm_aX25 σ18 α) (sm_yX25 α) h20 dX6_readMethod_168 (fun H locs hP _ hS => ?_)
    rw [sm_rX25] at hP
    obtain ⟨σ21, eσ21⟩ : ∃ x : sm_S, x = sm_r σ18 25 (upd (σ18.2.2.2.1 25) x1.toNatClampNeg r19) := ⟨_, rfl⟩
    replace hF := hF σ21 eσ21
    rw [← eσ21] at hP
    refine lv_aload_n hx hb dX6_readMethod_169 rfl (lv_at hl 0 rfl) ?_
    refine va_get (D := D) (ci := 6) (v := .ref (α.1 4)) (C := RX6) (T := TX6) (N := 5) hx hb hts in_X6 hown hK hP 6 (sm_gX6 σ21 α) rfl 2 (by decide) k_0 (fun _ h9 => h9) rfl dX6_readMethod_170 ?_
    refine va_get (D := D) (ci := 4) (v := .ref (α.1 27)) (C := RX4) (T := TX4) (N := 12) hx hb hts in_X4 hown hK hP 4 (sm_gX4 σ21 α) rfl 9 (by decide) k_8 (fun _ h9 => h9) rfl dX6_readMethod_173 ?_
    refine lv_iload_n hx hb dX6_readMethod_176 rfl (lv_at hl 1 rfl) ?_
    refine lv_aload_n hx hb dX6_readMethod_177 rfl (lv_at hl 0 rfl) ?_
    refine sm_vi (As := []) (rest := [.int x1, .ref (α.1 27)]) hP hK hD hE hS hA ⟨hx, hb, hml, hown, hts⟩ hl.1 (c_X6_codeLength l D H.size t0 σ21 α _ hF) (cwV 0 hts wg_X6_readMethod_X6_codeLength_106 rfl rfl rfl (by decide +kernel) ⟨Nat.le_of_ble_eq_true rfl, Nat.le_of_ble_eq_true rfl⟩) (va_recv hK hP (ci := 6) (q0 := 6) rfl (sm_gX6 σ21 α)) rfl rfl (Nat.le_of_ble_eq_true rfl) dX6_readMethod_178 ⟨Nat.zero_le _, Nat.zero_le _⟩ (fun r23 σ22 H locs hF hP hS => ?_)
    obtain ⟨h24, hF⟩ := hF
    refine va_iast (n := (σ22.2.2.1 27)) (f := (σ22.2.2.2.1 27)) (x := r23) hx hb hK hP (hD.to (sm_wX_m _ _)) hS 27 16 (sm_aX27 σ22 α) (sm_yX27 α) h24 dX6_readMethod_181 (fun H locs hP _ hS => ?_)
    rw [sm_rX27] at hP
    obtain ⟨σ25, eσ25⟩ : ∃ x : sm_S, x = sm_r σ22 27 (upd (σ22.2.2.2.1 27) x1.toNatClampNeg r23) := ⟨_, rfl⟩
    replace hF := hF σ25 eσ25
    rw [← eσ25] at hP
    refine lv_aload_n hx hb dX6_readMethod_182 rfl (lv_at hl 0 rfl) ?_
    refine va_get (D := D) (ci := 6) (v := .ref (α.1 4)) (C := RX6) (T := TX6) (N := 5) hx hb hts in_X6 hown hK hP 6 (sm_gX6 σ25 α) rfl 2 (by decide) k_0 (fun _ h9 => h9) rfl dX6_readMethod_183 ?_
    refine va_get (D := D) (ci := 4) (v := .ref (α.1 26)) (C := RX4) (T := TX4) (N := 12) hx hb hts in_X4 hown hK hP 4 (sm_gX4 σ25 α) rfl 8 (by decide) k_9 (fun _ h9 => h9) rfl dX6_readMethod_186 ?_
    refine lv_iload_n hx hb dX6_readMethod_189 rfl (lv_at hl 1 rfl) ?_
    refine lv_aload_n hx hb dX6_readMethod_190 rfl (lv_at hl 0 rfl) ?_
    refine va_get (D := D) (ci := 6) (v := .int (σ25.1 20)) (C := RX6) (T := TX6) (N := 5) hx hb hts in_X6 hown hK hP 6 (sm_gX6 σ25 α) rfl 3 (by decide) k_10 (fun _ h9 => h9) rfl dX6_readMethod_191 ?_
    obtain ⟨h26, hF⟩ := hF
    refine va_iast (n := (σ25.2.2.1 26)) (f := (σ25.2.2.2.1 26)) (x := (σ25.1 20)) hx hb hK hP (hD.to (sm_wX_m _ _)) hS 26 15 (sm_aX26 σ25 α) (sm_yX26 α) h26 dX6_readMethod_194 (fun H locs hP _ hS => ?_)
    rw [sm_rX26] at hP
    obtain ⟨σ27, eσ27⟩ : ∃ x : sm_S, x = sm_r σ25 26 (upd (σ25.2.2.2.1 26) x1.toNatClampNeg (σ25.1 20)) := ⟨_, rfl⟩
    replace hF := hF σ27 eσ27
    rw [← eσ27] at hP
    refine lv_aload_n hx hb dX6_readMethod_195 rfl (lv_at hl 0 rfl) ?_
    refine lv_iload_n hx hb dX6_readMethod_196 rfl (lv_at hl 1 rfl) ?_
    refine sm_vv (As := [.int x1]) (rest := []) hP hK hD hE hS hA ⟨hx, hb, hml, hown, hts⟩ hl.1 (c_X6_readCode l D H.size t0 σ27 α x1 _ hF) (cwV 1 hts wg_X6_readMethod_X6_readCode_113 rfl rfl rfl (by decide +kernel) ⟨Nat.le_of_ble_eq_true rfl, Nat.le_of_ble_eq_true rfl⟩) (va_recv hK hP (ci := 6) (q0 := 6) rfl (sm_gX6 σ27 α)) rfl rfl (Nat.le_of_ble_eq_true rfl) dX6_readMethod_197 ⟨Nat.zero_le _, Nat.zero_le _⟩ (fun σ28 H locs hF hP hS => ?_)
    refine lv_aload_n hx hb dX6_readMethod_200 rfl (lv_at hl 0 rfl) ?_
    refine va_get (D := D) (ci := 6) (v := .ref (α.1 4)) (C := RX6) (T := TX6) (N := 5) hx hb hts in_X6 hown hK hP 6 (sm_gX6 σ28 α) rfl 2 (by decide) k_0 (fun _ h9 => h9) rfl dX6_readMethod_201 ?_
    refine va_get (D := D) (ci := 4) (v := .ref (α.1 28)) (C := RX4) (T := TX4) (N := 12) hx hb hts in_X4 hown hK hP 4 (sm_gX4 σ28 α) rfl 10 (by decide) k_1 (fun _ h9 => h9) rfl dX6_readMethod_204 ?_
    refine lv_iload_n hx hb dX6_readMethod_207 rfl (lv_at hl 1 rfl) ?_
    refine lv_aload_n hx hb dX6_readMethod_208 rfl (lv_at hl 0 rfl) ?_
    refine lv_iconst (v := 0) hx hb dX6_readMethod_209 (by decide) ?_
    refine lv_bipush (v := 8) hx hb dX6_readMethod_210 (by decide) ?_
    refine lv_iconst (v := -1) hx hb dX6_readMethod_212 (by decide) ?_
    refine sm_vi (As := [.int 0, .int 8, .int (-1)]) (rest := [.int x1, .ref (α.1 28)]) hP hK hD hE hS hA ⟨hx, hb, hml, hown, hts⟩ hl.1 (c_X6_number l D H.size t0 σ28 α 0 8 (-1) _ hF) (cwV 3 hts wg_X6_readMethod_X6_number_34 rfl rfl rfl (by decide +kernel) ⟨Nat.le_of_ble_eq_true rfl, Nat.le_of_ble_eq_true rfl⟩) (va_recv hK hP (ci := 6) (q0 := 6) rfl (sm_gX6 σ28 α)) rfl rfl (Nat.le_of_ble_eq_true rfl) dX6_readMethod_213 ⟨Nat.zero_le _, Nat.zero_le _⟩ (fun r30 σ29 H locs hF hP hS => ?_)
    obtain ⟨h31, hF⟩ := hF
    refine va_iast (n := (σ29.2.2.1 28)) (f := (σ29.2.2.2.1 28)) (x := r30) hx hb hK hP (hD.to (sm_wX_m _ _)) hS 28 17 (sm_aX28 σ29 α) (sm_yX28 α) h31 dX6_readMethod_216 (fun H locs hP _ hS => ?_)
    rw [sm_rX28] at hP
    obtain ⟨σ32, eσ32⟩ : ∃ x : sm_S, x = sm_r σ29 28 (upd (σ29.2.2.2.1 28) x1.toNatClampNeg r30) := ⟨_, rfl⟩
    replace hF := hF σ32 eσ32
    rw [← eσ32] at hP
    refine lv_aload_n hx hb dX6_readMethod_217 rfl (lv_at hl 0 rfl) ?_
    refine va_get (D := D) (ci := 6) (v := .ref (α.1 4)) (C := RX6) (T := TX6) (N := 5) hx hb hts in_X6 hown hK hP 6 (sm_gX6 σ32 α) rfl 2 (by decide) k_0 (fun _ h9 => h9) rfl dX6_readMethod_218 ?_
    refine va_get (D := D) (ci := 4) (v := .ref (α.1 29)) (C := RX4) (T := TX4) (N := 12) hx hb hts in_X4 hown hK hP 4 (sm_gX4 σ32 α) rfl 11 (by decide) k_11 (fun _ h9 => h9) rfl dX6_readMethod_221 ?_
    refine lv_iload_n hx hb dX6_readMethod_224 rfl (lv_at hl 1 rfl) ?_
    refine lv_aload_n hx hb dX6_readMethod_225 rfl (lv_at hl 0 rfl) ?_
    refine va_get (D := D) (ci := 6) (v := .int (σ32.1 20)) (C := RX6) (T := TX6) (N := 5) hx hb hts in_X6 hown hK hP 6 (sm_gX6 σ32 α) rfl 3 (by decide) k_10 (fun _ h9 => h9) rfl dX6_readMethod_226 ?_
    obtain ⟨h33, hF⟩ := hF
    refine va_iast (n := (σ32.2.2.1 29)) (f := (σ32.2.2.2.1 29)) (x := (σ32.1 20)) hx hb hK hP (hD.to (sm_wX_m _ _)) hS 29 18 (sm_aX29 σ32 α) (sm_yX29 α) h33 dX6_readMethod_229 (fun H locs hP _ hS => ?_)
    rw [sm_rX29] at hP
    obtain ⟨σ34, eσ34⟩ : ∃ x : sm_S, x = sm_r σ32 29 (upd (σ32.2.2.2.1 29) x1.toNatClampNeg (σ32.1 20)) := ⟨_, rfl⟩
    replace hF := hF σ34 eσ34
    rw [← eσ34] at hP
    refine lv_iconst (v := 0) hx hb dX6_readMethod_230 (by decide) ?_
    refine lv_istore (lv' := [(4, .int 0), (0, .ref (α.1 6)), (1, .int x1)]) hx hb dX6_readMethod_231 hl (by decide) rfl (fun ls hl => ?_)
    obtain ⟨n233, hF⟩ := hF
    exact B233 n233 σ34 x1 0 hF H locs ls hP hS (lv_sub hl [1, 2, 0] rfl)
  have B68 : ∀ (n : Nat) (σ : sm_S) (x1 : Int32) (x3 : Int32) (x4 : Int32), mp_X6_readMethod_68 K n σ x1 x3 x4 → sm_J p l e (headSpec wp_X6_readMethod { frames := 5, cells := 0, slots := 0, locals := 115 }).room s m ([.ref (α.1 6), .int p1] : List Value).toArray below meth c (MQ below (va_Qv K (sm_B sm_wX D α) A) ([.ref (α.1 6), .int p1] : List Value).toArray s 0 0 A) D A 5 (sm_wX σ α) 68 [(0, .ref (α.1 6)), (1, .int x1), (3, .int x3), (4, .int x4)] [] := by
    intro n68
    induction n68 with
    | zero =>
      intro σ x1 x3 x4 hF
      exact hF.elim
    | succ n68 ih68 =>
      intro σ x1 x3 x4 hF H locs ls hP hS hl
      unfold mp_X6_readMethod_68 at hF
      refine lv_iload hx hb dX6_readMethod_68 (lv_at hl 3 rfl) ?_
      refine lv_iload_n hx hb dX6_readMethod_70 rfl (lv_at hl 2 rfl) ?_
      refine lv_icmp_ge (tgt := 101) hx hb dX6_readMethod_71 (by decide) (fun h35 => ?_) (fun h35 => ?_)
      · replace hF := hF.1 h35
        exact B101 σ x1 hF H locs ls hP hS (lv_sub hl [0, 1] rfl)
      · replace hF := hF.2 h35
        refine lv_aload_n hx hb dX6_readMethod_74 rfl (lv_at hl 0 rfl) ?_
        refine va_get (D := D) (ci := 6) (v := .int (σ.1 21)) (C := RX6) (T := TX6) (N := 5) hx hb hts in_X6 hown hK hP 6 (sm_gX6 σ α) rfl 4 (by decide) k_12 (fun _ h9 => h9) rfl dX6_readMethod_75 ?_
        refine lv_iconst (v := -1) hx hb dX6_readMethod_78 (by decide) ?_
        refine lv_icmp_ne (tgt := 101) hx hb dX6_readMethod_79 (by decide) (fun h36 => ?_) (fun h36 => ?_)
        · replace hF := hF.1 h36
          exact B101 σ x1 hF H locs ls hP hS (lv_sub hl [0, 1] rfl)
        · replace hF := hF.2 h36
          refine lv_aload_n hx hb dX6_readMethod_82 rfl (lv_at hl 0 rfl) ?_
          refine va_get (D := D) (ci := 6) (v := .ref (α.1 4)) (C := RX6) (T := TX6) (N := 5) hx hb hts in_X6 hown hK hP 6 (sm_gX6 σ α) rfl 2 (by decide) k_0 (fun _ h9 => h9) rfl dX6_readMethod_83 ?_
          refine lv_iload_n hx hb dX6_readMethod_86 rfl (lv_at hl 1 rfl) ?_
          refine lv_aload_n hx hb dX6_readMethod_87 rfl (lv_at hl 0 rfl) ?_
          refine lv_iconst (v := -1) hx hb dX6_readMethod_88 (by decide) ?_
          refine sm_vi (As := [.int (-1)]) (rest := [.int x1, .ref (α.1 4)]) hP hK hD hE hS hA ⟨hx, hb, hml, hown, hts⟩ hl.1 (c_X6_type l D H.size t0 σ α (-1) _ hF) (cwV 1 hts wg_X6_readMethod_X6_type_76 rfl rfl rfl (by decide +kernel) ⟨Nat.le_of_ble_eq_true rfl, Nat.le_of_ble_eq_true rfl⟩) (va_recv hK hP (ci := 6) (q0 := 6) rfl (sm_gX6 σ α)) rfl rfl (Nat.le_of_ble_eq_true rfl) dX6_readMethod_89 ⟨Nat.zero_le _, Nat.zero_le _⟩ (fun r38 σ37 H locs hF hP hS => ?_)
          refine sm_vv (As := [.int x1, .int r38]) (rest := []) hP hK hD hE hS hA ⟨hx, hb, hml, hown, hts⟩ hl.1 (c_X4_addParam l D H.size t0 σ37 α x1 r38 _ hF) (cwV 2 hts wg_X6_readMethod_X4_addParam_91 rfl rfl rfl (by decide +kernel) ⟨Nat.le_of_ble_eq_true rfl, Nat.le_of_ble_eq_true rfl⟩) (va_recv hK hP (ci := 4) (q0 := 4) rfl (sm_gX4 σ37 α)) rfl rfl (Nat.le_of_ble_eq_true rfl) dX6_readMethod_92 ⟨Nat.zero_le _, Nat.zero_le _⟩ (fun σ39 H locs hF hP hS => ?_)
          obtain ⟨v40, ev40⟩ : ∃ y : Int32, y = x4 + 1 := ⟨_, rfl⟩
          replace hF := hF v40 ev40
          refine lv_iinc (v := v40) (lv' := [(4, .int v40), (0, .ref (α.1 6)), (1, .int x1), (3, .int x3)]) hx hb dX6_readMethod_95 hl (k := 3) rfl (by rw [ev40]; rfl) (by decide) rfl (fun ls hl => ?_)
          refine lv_goto (tgt := 68) hx hb dX6_readMethod_98 (by decide) ?_
          exact ih68 σ39 x1 x3 v40 hF H locs ls hP hS (lv_sub hl [1, 2, 3, 0] rfl)
  have B56 : ∀ (σ : sm_S) (x1 : Int32), mp_X6_readMethod_56 K σ x1 → sm_J p l e (headSpec wp_X6_readMethod { frames := 5, cells := 0, slots := 0, locals := 115 }).room s m ([.ref (α.1 6), .int p1] : List Value).toArray below meth c (MQ below (va_Qv K (sm_B sm_wX D α) A) ([.ref (α.1 6), .int p1] : List Value).toArray s 0 0 A) D A 5 (sm_wX σ α) 56 [(0, .ref (α.1 6)), (1, .int x1)] [] := by
    intro σ x1 hF H locs ls hP hS hl
    unfold mp_X6_readMethod_56 at hF
    refine lv_aload_n hx hb dX6_readMethod_56 rfl (lv_at hl 0 rfl) ?_
    refine lv_iconst (v := 0) hx hb dX6_readMethod_57 (by decide) ?_
    refine lv_bipush (v := 7) hx hb dX6_readMethod_58 (by decide) ?_
    refine lv_iconst (v := -1) hx hb dX6_readMethod_60 (by decide) ?_
    refine sm_vi (As := [.int 0, .int 7, .int (-1)]) (rest := []) hP hK hD hE hS hA ⟨hx, hb, hml, hown, hts⟩ hl.1 (c_X6_number l D H.size t0 σ α 0 7 (-1) _ hF) (cwV 3 hts wg_X6_readMethod_X6_number_34 rfl rfl rfl (by decide +kernel) ⟨Nat.le_of_ble_eq_true rfl, Nat.le_of_ble_eq_true rfl⟩) (va_recv hK hP (ci := 6) (q0 := 6) rfl (sm_gX6 σ α)) rfl rfl (Nat.le_of_ble_eq_true rfl) dX6_readMethod_61 ⟨Nat.zero_le _, Nat.zero_le _⟩ (fun r42 σ41 H locs hF hP hS => ?_)
    refine lv_istore_n (lv' := [(3, .int r42), (0, .ref (α.1 6)), (1, .int x1)]) hx hb dX6_readMethod_64 rfl hl (by decide) rfl (fun ls hl => ?_)
    refine lv_iconst (v := 0) hx hb dX6_readMethod_65 (by decide) ?_
    refine lv_istore (lv' := [(4, .int 0), (3, .int r42), (0, .ref (α.1 6)), (1, .int x1)]) hx hb dX6_readMethod_66 hl (by decide) rfl (fun ls hl => ?_)
    obtain ⟨n68, hF⟩ := hF
    exact B68 n68 σ41 x1 r42 0 hF H locs ls hP hS (lv_sub hl [2, 3, 1, 0] rfl)
  unfold mp_X6_readMethod at hF
  revert hP hS
  generalize hLo : ([] : List Loc) = locs
  suffices h9 : ∀ (H : Heap) (locs : List Loc), va_P D vwCl (sm_wX σ α) H → va_S A s.heap H locs → W p l e (headSpec wp_X6_readMethod { frames := 5, cells := 0, slots := 0, locals := 115 }).room s m ([.ref (α.1 6), .int p1] : List Value).toArray below meth c H locs 0 0 (MQ below (va_Qv K (sm_B sm_wX D α) A) ([.ref (α.1 6), .int p1] : List Value).toArray s 0 0 A) (F0 m 0 ls []) from fun hP hS => h9 s.heap locs hP hS
  intro H locs hP hS
  refine lv_aload_n hx hb dX6_readMethod_0 rfl (lv_at hl 0 rfl) ?_
  refine lv_iconst (v := 0) hx hb dX6_readMethod_1 (by decide) ?_
  refine lv_aload_n hx hb dX6_readMethod_2 rfl (lv_at hl 0 rfl) ?_
  refine va_get (D := D) (ci := 6) (v := .ref (α.1 0)) (C := RX6) (T := TX6) (N := 5) hx hb hts in_X6 hown hK hP 6 (sm_gX6 σ α) rfl 1 (by decide) k_2 (fun _ h9 => h9) rfl dX6_readMethod_3 ?_
  refine va_get (D := D) (ci := 0) (v := .int (σ.1 0)) (C := RX0) (T := TX0) (N := 7) hx hb hts in_X0 hown hK hP 0 (sm_gX0 σ α) rfl 0 (by decide) k_3 (fun _ h9 => h9) rfl dX6_readMethod_6 ?_
  refine lv_iconst (v := 1) hx hb dX6_readMethod_9 (by decide) ?_
  refine lv_isub hx hb dX6_readMethod_10 ?_
  refine lv_sipush (v := 255) hx hb dX6_readMethod_11 (by decide) ?_
  refine sm_vi (As := [.int 0, .int ((σ.1 0) - 1), .int 255]) (rest := []) hP hK hD hE hS hA ⟨hx, hb, hml, hown, hts⟩ hl.1 (c_X6_number l D H.size t0 σ α 0 ((σ.1 0) - 1) 255 _ hF) (cwV 3 hts wg_X6_readMethod_X6_number_34 rfl rfl rfl (by decide +kernel) ⟨Nat.le_of_ble_eq_true rfl, Nat.le_of_ble_eq_true rfl⟩) (va_recv hK hP (ci := 6) (q0 := 6) rfl (sm_gX6 σ α)) rfl rfl (Nat.le_of_ble_eq_true rfl) dX6_readMethod_14 ⟨Nat.zero_le _, Nat.zero_le _⟩ (fun r44 σ43 H locs hF hP hS => ?_)
  refine lv_istore_n (lv' := [(2, .int r44), (0, .ref (α.1 6)), (1, .int p1)]) hx hb dX6_readMethod_17 rfl hl (by decide) rfl (fun ls hl => ?_)
  refine lv_aload_n hx hb dX6_readMethod_18 rfl (lv_at hl 1 rfl) ?_
  refine va_get (D := D) (ci := 6) (v := .ref (α.1 4)) (C := RX6) (T := TX6) (N := 5) hx hb hts in_X6 hown hK hP 6 (sm_gX6 σ43 α) rfl 2 (by decide) k_0 (fun _ h9 => h9) rfl dX6_readMethod_19 ?_
  refine va_get (D := D) (ci := 4) (v := .ref (α.1 20)) (C := RX4) (T := TX4) (N := 12) hx hb hts in_X4 hown hK hP 4 (sm_gX4 σ43 α) rfl 2 (by decide) k_13 (fun _ h9 => h9) rfl dX6_readMethod_22 ?_
  refine lv_iload_n hx hb dX6_readMethod_25 rfl (lv_at hl 2 rfl) ?_
  refine lv_iload_n hx hb dX6_readMethod_26 rfl (lv_at hl 0 rfl) ?_
  obtain ⟨h45, hF⟩ := hF
  refine va_iast (n := (σ43.2.2.1 20)) (f := (σ43.2.2.2.1 20)) (x := r44) hx hb hK hP (hD.to (sm_wX_m _ _)) hS 20 9 (sm_aX20 σ43 α) (sm_yX20 α) h45 dX6_readMethod_27 (fun H locs hP _ hS => ?_)
  rw [sm_rX20] at hP
  obtain ⟨σ46, eσ46⟩ : ∃ x : sm_S, x = sm_r σ43 20 (upd (σ43.2.2.2.1 20) p1.toNatClampNeg r44) := ⟨_, rfl⟩
  replace hF := hF σ46 eσ46
  rw [← eσ46] at hP
  refine lv_aload_n hx hb dX6_readMethod_28 rfl (lv_at hl 1 rfl) ?_
  refine va_get (D := D) (ci := 6) (v := .ref (α.1 4)) (C := RX6) (T := TX6) (N := 5) hx hb hts in_X6 hown hK hP 6 (sm_gX6 σ46 α) rfl 2 (by decide) k_0 (fun _ h9 => h9) rfl dX6_readMethod_29 ?_
  refine va_get (D := D) (ci := 4) (v := .ref (α.1 21)) (C := RX4) (T := TX4) (N := 12) hx hb hts in_X4 hown hK hP 4 (sm_gX4 σ46 α) rfl 3 (by decide) k_6 (fun _ h9 => h9) rfl dX6_readMethod_32 ?_
  refine lv_iload_n hx hb dX6_readMethod_35 rfl (lv_at hl 2 rfl) ?_
  refine lv_iconst (v := 0) hx hb dX6_readMethod_36 (by decide) ?_
  obtain ⟨h47, hF⟩ := hF
  refine va_iast (n := (σ46.2.2.1 21)) (f := (σ46.2.2.2.1 21)) (x := 0) hx hb hK hP (hD.to (sm_wX_m _ _)) hS 21 10 (sm_aX21 σ46 α) (sm_yX21 α) h47 dX6_readMethod_37 (fun H locs hP _ hS => ?_)
  rw [sm_rX21] at hP
  obtain ⟨σ48, eσ48⟩ : ∃ x : sm_S, x = sm_r σ46 21 (upd (σ46.2.2.2.1 21) p1.toNatClampNeg 0) := ⟨_, rfl⟩
  replace hF := hF σ48 eσ48
  rw [← eσ48] at hP
  refine lv_iload_n hx hb dX6_readMethod_38 rfl (lv_at hl 0 rfl) ?_
  refine lv_sipush (v := 255) hx hb dX6_readMethod_39 (by decide) ?_
  refine lv_icmp_eq (tgt := 56) hx hb dX6_readMethod_42 (by decide) (fun h49 => ?_) (fun h49 => ?_)
  · replace hF := hF.1 h49
    exact B56 σ48 p1 hF H locs ls hP hS (lv_sub hl [1, 2] rfl)
  · replace hF := hF.2 h49
    refine lv_aload_n hx hb dX6_readMethod_45 rfl (lv_at hl 1 rfl) ?_
    refine va_get (D := D) (ci := 6) (v := .ref (α.1 4)) (C := RX6) (T := TX6) (N := 5) hx hb hts in_X6 hown hK hP 6 (sm_gX6 σ48 α) rfl 2 (by decide) k_0 (fun _ h9 => h9) rfl dX6_readMethod_46 ?_
    refine lv_iload_n hx hb dX6_readMethod_49 rfl (lv_at hl 2 rfl) ?_
    refine lv_iload_n hx hb dX6_readMethod_50 rfl (lv_at hl 0 rfl) ?_
    refine lv_iconst (v := 1) hx hb dX6_readMethod_51 (by decide) ?_
    refine lv_iadd hx hb dX6_readMethod_52 ?_
    refine sm_vv (As := [.int p1, .int (r44 + 1)]) (rest := []) hP hK hD hE hS hA ⟨hx, hb, hml, hown, hts⟩ hl.1 (c_X4_addParam l D H.size t0 σ48 α p1 (r44 + 1) _ hF) (cwV 2 hts wg_X6_readMethod_X4_addParam_91 rfl rfl rfl (by decide +kernel) ⟨Nat.le_of_ble_eq_true rfl, Nat.le_of_ble_eq_true rfl⟩) (va_recv hK hP (ci := 4) (q0 := 4) rfl (sm_gX4 σ48 α)) rfl rfl (Nat.le_of_ble_eq_true rfl) dX6_readMethod_53 ⟨Nat.zero_le _, Nat.zero_le _⟩ (fun σ50 H locs hF hP hS => ?_)
    exact B56 σ50 p1 hF H locs ls hP hS (lv_sub hl [1, 2] rfl)
theorem dX6_firstWrong_0 : decode cX6_firstWrong 0 = .ok (.aload_n 0, 1) := by decide +kernel
theorem dX6_firstWrong_1 : decode cX6_firstWrong 1 = .ok (.iconst 0, 1) := by decide +kernel
theorem dX6_firstWrong_2 : decode cX6_firstWrong 2 = .ok (.putfield 27, 3) := by decide +kernel
theorem dX6_firstWrong_5 : decode cX6_firstWrong 5 = .ok (.aload_n 0, 1) := by decide +kernel
theorem dX6_firstWrong_6 : decode cX6_firstWrong 6 = .ok (.iconst (-1), 1) := by decide +kernel
theorem dX6_firstWrong_7 : decode cX6_firstWrong 7 = .ok (.putfield 31, 3) := by decide +kernel
theorem dX6_firstWrong_10 : decode cX6_firstWrong 10 = .ok (.aload_n 0, 1) := by decide +kernel
theorem dX6_firstWrong_11 : decode cX6_firstWrong 11 = .ok (.getfield 21, 3) := by decide +kernel
theorem dX6_firstWrong_14 : decode cX6_firstWrong 14 = .ok (.aload_n 0, 1) := by decide +kernel
theorem dX6_firstWrong_15 : decode cX6_firstWrong 15 = .ok (.iconst 1, 1) := by decide +kernel
theorem dX6_firstWrong_16 : decode cX6_firstWrong 16 = .ok (.bipush 32, 2) := by decide +kernel
theorem dX6_firstWrong_18 : decode cX6_firstWrong 18 = .ok (.iconst (-1), 1) := by decide +kernel
theorem dX6_firstWrong_19 : decode cX6_firstWrong 19 = .ok (.invokevirtual 34, 3) := by decide +kernel
theorem dX6_firstWrong_22 : decode cX6_firstWrong 22 = .ok (.putfield 38, 3) := by decide +kernel
theorem dX6_firstWrong_25 : decode cX6_firstWrong 25 = .ok (.iconst 0, 1) := by decide +kernel
theorem dX6_firstWrong_26 : decode cX6_firstWrong 26 = .ok (.istore_n 1, 1) := by decide +kernel
theorem dX6_firstWrong_27 : decode cX6_firstWrong 27 = .ok (.iload_n 1, 1) := by decide +kernel
theorem dX6_firstWrong_28 : decode cX6_firstWrong 28 = .ok (.aload_n 0, 1) := by decide +kernel
theorem dX6_firstWrong_29 : decode cX6_firstWrong 29 = .ok (.getfield 21, 3) := by decide +kernel
theorem dX6_firstWrong_32 : decode cX6_firstWrong 32 = .ok (.getfield 38, 3) := by decide +kernel
theorem dX6_firstWrong_35 : decode cX6_firstWrong 35 = .ok (.if_icmp .ge 22, 3) := by decide +kernel
theorem dX6_firstWrong_38 : decode cX6_firstWrong 38 = .ok (.aload_n 0, 1) := by decide +kernel
theorem dX6_firstWrong_39 : decode cX6_firstWrong 39 = .ok (.getfield 31, 3) := by decide +kernel
theorem dX6_firstWrong_42 : decode cX6_firstWrong 42 = .ok (.iconst (-1), 1) := by decide +kernel
theorem dX6_firstWrong_43 : decode cX6_firstWrong 43 = .ok (.if_icmp .ne 14, 3) := by decide +kernel
theorem dX6_firstWrong_46 : decode cX6_firstWrong 46 = .ok (.aload_n 0, 1) := by decide +kernel
theorem dX6_firstWrong_47 : decode cX6_firstWrong 47 = .ok (.iload_n 1, 1) := by decide +kernel
theorem dX6_firstWrong_48 : decode cX6_firstWrong 48 = .ok (.invokevirtual 43, 3) := by decide +kernel
theorem dX6_firstWrong_51 : decode cX6_firstWrong 51 = .ok (.iinc 1 1, 3) := by decide +kernel
theorem dX6_firstWrong_54 : decode cX6_firstWrong 54 = .ok (.goto (-27), 3) := by decide +kernel
theorem dX6_firstWrong_57 : decode cX6_firstWrong 57 = .ok (.iconst 0, 1) := by decide +kernel
theorem dX6_firstWrong_58 : decode cX6_firstWrong 58 = .ok (.istore_n 1, 1) := by decide +kernel
theorem dX6_firstWrong_59 : decode cX6_firstWrong 59 = .ok (.iload_n 1, 1) := by decide +kernel
theorem dX6_firstWrong_60 : decode cX6_firstWrong 60 = .ok (.iconst 5, 1) := by decide +kernel
theorem dX6_firstWrong_61 : decode cX6_firstWrong 61 = .ok (.if_icmp .ge 33, 3) := by decide +kernel
theorem dX6_firstWrong_64 : decode cX6_firstWrong 64 = .ok (.aload_n 0, 1) := by decide +kernel
theorem dX6_firstWrong_65 : decode cX6_firstWrong 65 = .ok (.getfield 21, 3) := by decide +kernel
theorem dX6_firstWrong_68 : decode cX6_firstWrong 68 = .ok (.getfield 47, 3) := by decide +kernel
theorem dX6_firstWrong_71 : decode cX6_firstWrong 71 = .ok (.iload_n 1, 1) := by decide +kernel
theorem dX6_firstWrong_72 : decode cX6_firstWrong 72 = .ok (.aload_n 0, 1) := by decide +kernel
theorem dX6_firstWrong_73 : decode cX6_firstWrong 73 = .ok (.iconst 0, 1) := by decide +kernel
theorem dX6_firstWrong_74 : decode cX6_firstWrong 74 = .ok (.aload_n 0, 1) := by decide +kernel
theorem dX6_firstWrong_75 : decode cX6_firstWrong 75 = .ok (.getfield 21, 3) := by decide +kernel
theorem dX6_firstWrong_78 : decode cX6_firstWrong 78 = .ok (.getfield 38, 3) := by decide +kernel
theorem dX6_firstWrong_81 : decode cX6_firstWrong 81 = .ok (.iconst 1, 1) := by decide +kernel
theorem dX6_firstWrong_82 : decode cX6_firstWrong 82 = .ok (.isub, 1) := by decide +kernel
theorem dX6_firstWrong_83 : decode cX6_firstWrong 83 = .ok (.iconst (-1), 1) := by decide +kernel
theorem dX6_firstWrong_84 : decode cX6_firstWrong 84 = .ok (.invokevirtual 34, 3) := by decide +kernel
theorem dX6_firstWrong_87 : decode cX6_firstWrong 87 = .ok (.iastore, 1) := by decide +kernel
theorem dX6_firstWrong_88 : decode cX6_firstWrong 88 = .ok (.iinc 1 1, 3) := by decide +kernel
theorem dX6_firstWrong_91 : decode cX6_firstWrong 91 = .ok (.goto (-32), 3) := by decide +kernel
theorem dX6_firstWrong_94 : decode cX6_firstWrong 94 = .ok (.aload_n 0, 1) := by decide +kernel
theorem dX6_firstWrong_95 : decode cX6_firstWrong 95 = .ok (.getfield 26, 3) := by decide +kernel
theorem dX6_firstWrong_98 : decode cX6_firstWrong 98 = .ok (.aload_n 0, 1) := by decide +kernel
theorem dX6_firstWrong_99 : decode cX6_firstWrong 99 = .ok (.iconst 1, 1) := by decide +kernel
theorem dX6_firstWrong_100 : decode cX6_firstWrong 100 = .ok (.bipush 64, 2) := by decide +kernel
theorem dX6_firstWrong_102 : decode cX6_firstWrong 102 = .ok (.iconst (-1), 1) := by decide +kernel
theorem dX6_firstWrong_103 : decode cX6_firstWrong 103 = .ok (.invokevirtual 34, 3) := by decide +kernel
theorem dX6_firstWrong_106 : decode cX6_firstWrong 106 = .ok (.putfield 51, 3) := by decide +kernel
theorem dX6_firstWrong_109 : decode cX6_firstWrong 109 = .ok (.iconst 0, 1) := by decide +kernel
theorem dX6_firstWrong_110 : decode cX6_firstWrong 110 = .ok (.istore_n 1, 1) := by decide +kernel
theorem dX6_firstWrong_111 : decode cX6_firstWrong 111 = .ok (.iload_n 1, 1) := by decide +kernel
theorem dX6_firstWrong_112 : decode cX6_firstWrong 112 = .ok (.aload_n 0, 1) := by decide +kernel
theorem dX6_firstWrong_113 : decode cX6_firstWrong 113 = .ok (.getfield 26, 3) := by decide +kernel
theorem dX6_firstWrong_116 : decode cX6_firstWrong 116 = .ok (.getfield 51, 3) := by decide +kernel
theorem dX6_firstWrong_119 : decode cX6_firstWrong 119 = .ok (.if_icmp .ge 22, 3) := by decide +kernel
theorem dX6_firstWrong_122 : decode cX6_firstWrong 122 = .ok (.aload_n 0, 1) := by decide +kernel
theorem dX6_firstWrong_123 : decode cX6_firstWrong 123 = .ok (.getfield 31, 3) := by decide +kernel
theorem dX6_firstWrong_126 : decode cX6_firstWrong 126 = .ok (.iconst (-1), 1) := by decide +kernel
theorem dX6_firstWrong_127 : decode cX6_firstWrong 127 = .ok (.if_icmp .ne 14, 3) := by decide +kernel
theorem dX6_firstWrong_130 : decode cX6_firstWrong 130 = .ok (.aload_n 0, 1) := by decide +kernel
theorem dX6_firstWrong_131 : decode cX6_firstWrong 131 = .ok (.iload_n 1, 1) := by decide +kernel
theorem dX6_firstWrong_132 : decode cX6_firstWrong 132 = .ok (.invokevirtual 54, 3) := by decide +kernel
theorem dX6_firstWrong_135 : decode cX6_firstWrong 135 = .ok (.iinc 1 1, 3) := by decide +kernel
theorem dX6_firstWrong_138 : decode cX6_firstWrong 138 = .ok (.goto (-27), 3) := by decide +kernel
theorem dX6_firstWrong_141 : decode cX6_firstWrong 141 = .ok (.aload_n 0, 1) := by decide +kernel
theorem dX6_firstWrong_142 : decode cX6_firstWrong 142 = .ok (.invokevirtual 57, 3) := by decide +kernel
theorem dX6_firstWrong_145 : decode cX6_firstWrong 145 = .ok (.aload_n 0, 1) := by decide +kernel
theorem dX6_firstWrong_146 : decode cX6_firstWrong 146 = .ok (.getfield 31, 3) := by decide +kernel
theorem dX6_firstWrong_149 : decode cX6_firstWrong 149 = .ok (.iconst (-1), 1) := by decide +kernel
theorem dX6_firstWrong_150 : decode cX6_firstWrong 150 = .ok (.if_icmp .ne 25, 3) := by decide +kernel
theorem dX6_firstWrong_153 : decode cX6_firstWrong 153 = .ok (.aload_n 0, 1) := by decide +kernel
theorem dX6_firstWrong_154 : decode cX6_firstWrong 154 = .ok (.getfield 27, 3) := by decide +kernel
theorem dX6_firstWrong_157 : decode cX6_firstWrong 157 = .ok (.aload_n 0, 1) := by decide +kernel
theorem dX6_firstWrong_158 : decode cX6_firstWrong 158 = .ok (.getfield 9, 3) := by decide +kernel
theorem dX6_firstWrong_161 : decode cX6_firstWrong 161 = .ok (.getfield 60, 3) := by decide +kernel
theorem dX6_firstWrong_164 : decode cX6_firstWrong 164 = .ok (.if_icmp .ge 11, 3) := by decide +kernel
theorem dX6_firstWrong_167 : decode cX6_firstWrong 167 = .ok (.aload_n 0, 1) := by decide +kernel
theorem dX6_firstWrong_168 : decode cX6_firstWrong 168 = .ok (.aload_n 0, 1) := by decide +kernel
theorem dX6_firstWrong_169 : decode cX6_firstWrong 169 = .ok (.getfield 27, 3) := by decide +kernel
theorem dX6_firstWrong_172 : decode cX6_firstWrong 172 = .ok (.putfield 31, 3) := by decide +kernel
theorem dX6_firstWrong_175 : decode cX6_firstWrong 175 = .ok (.aload_n 0, 1) := by decide +kernel
theorem dX6_firstWrong_176 : decode cX6_firstWrong 176 = .ok (.getfield 31, 3) := by decide +kernel
theorem dX6_firstWrong_179 : decode cX6_firstWrong 179 = .ok (.ireturn, 1) := by decide +kernel
def wp_X6_firstWrong : List Cond := .code yX6_firstWrong cX6_firstWrong 2 (some .int) :: (((((((([.fieldLink RX6 31 "SteadyMachine$Reader" "wrong" "I", .fieldLink RX6 27 "SteadyMachine$Reader" "at" "I", .fieldLink RX6 9 "SteadyMachine$Reader" "image" "LSteadyMachine$Image;", .fieldLink RX6 60 "SteadyMachine$Image" "size" "I", .fieldLink RX6 26 "SteadyMachine$Reader" "methods" "LSteadyMachine$Methods;", .fieldLink RX6 51 "SteadyMachine$Methods" "many" "I", .fieldLink RX6 21 "SteadyMachine$Reader" "classes" "LSteadyMachine$Classes;", .fieldLink RX6 47 "SteadyMachine$Classes" "thrown" "[I", .fieldLink RX6 38 "SteadyMachine$Classes" "many" "I"] ++ (wsV RX6 57 RX6 yX6_readFirst wp_X6_readFirst)) ++ (wsV RX6 54 RX6 yX6_readMethod wp_X6_readMethod)) ++ (wsV RX6 34 RX6 yX6_number wp_X6_number)) ++ (wsV RX6 43 RX6 yX6_readClass wp_X6_readClass)) ++ wsX00) ++ wsX20) ++ wsX40) ++ wsX60)
theorem wq_X6_firstWrong : wp_X6_firstWrong.all goodWord = true := wa_c rfl (wa_a (wa_a (wa_a (wa_a (wa_a (wa_a (wa_a (wa_a (by decide +kernel) (wa_V wq_X6_readFirst)) (wa_V wq_X6_readMethod)) (wa_V wq_X6_number)) (wa_V wq_X6_readClass)) uq_X0) uq_X2) uq_X4) uq_X6)
theorem wt_X6_firstWrong : GoodIn lw_tbl wp_X6_firstWrong := wm_c (List.mem_of_getElem? (i := 648) (by decide +kernel)) rfl (wm_a (wm_a (wm_a (wm_a (wm_a (wm_a (wm_a (wm_a (goodIn_r _ [341, 340, 337, 313, 339, 222, 338, 195, 172] (by decide +kernel) (by decide +kernel)) (wm_a (goodIn_r _ [699, 701, 10, 140] (by decide +kernel) (by decide +kernel)) wt_X6_readFirst)) (wm_a (goodIn_r _ [669, 671, 4, 140] (by decide +kernel) (by decide +kernel)) wt_X6_readMethod)) (wm_a (goodIn_r _ [649, 651, 1, 140] (by decide +kernel) (by decide +kernel)) wt_X6_number)) (wm_a (goodIn_r _ [657, 659, 2, 140] (by decide +kernel) (by decide +kernel)) wt_X6_readClass)) ut_X0) ut_X2) ut_X4) ut_X6)
theorem wg_X6_firstWrong_X6_readFirst_57 : GoodIn wp_X6_firstWrong (wsV RX6 57 RX6 yX6_readFirst wp_X6_readFirst) := goodIn_sub (fun w h => List.mem_cons_of_mem _ (List.mem_append_left _ (List.mem_append_left _ (List.mem_append_left _ (List.mem_append_left _ (List.mem_append_left _ (List.mem_append_left _ (List.mem_append_left _ (List.mem_append_right _ h))))))))) (wa_V wq_X6_readFirst)
theorem wg_X6_firstWrong_X6_readMethod_54 : GoodIn wp_X6_firstWrong (wsV RX6 54 RX6 yX6_readMethod wp_X6_readMethod) := goodIn_sub (fun w h => List.mem_cons_of_mem _ (List.mem_append_left _ (List.mem_append_left _ (List.mem_append_left _ (List.mem_append_left _ (List.mem_append_left _ (List.mem_append_left _ (List.mem_append_right _ h)))))))) (wa_V wq_X6_readMethod)
theorem wg_X6_firstWrong_X6_number_34 : GoodIn wp_X6_firstWrong (wsV RX6 34 RX6 yX6_number wp_X6_number) := goodIn_sub (fun w h => List.mem_cons_of_mem _ (List.mem_append_left _ (List.mem_append_left _ (List.mem_append_left _ (List.mem_append_left _ (List.mem_append_left _ (List.mem_append_right _ h))))))) (wa_V wq_X6_number)
theorem wg_X6_firstWrong_X6_readClass_43 : GoodIn wp_X6_firstWrong (wsV RX6 43 RX6 yX6_readClass wp_X6_readClass) := goodIn_sub (fun w h => List.mem_cons_of_mem _ (List.mem_append_left _ (List.mem_append_left _ (List.mem_append_left _ (List.mem_append_left _ (List.mem_append_right _ h)))))) (wa_V wq_X6_readClass)
theorem wi_X6_firstWrong_X0 : ∀ w ∈ wsX00, w ∈ wp_X6_firstWrong := fun w h => List.mem_cons_of_mem _ (List.mem_append_left _ (List.mem_append_left _ (List.mem_append_left _ (List.mem_append_right _ h))))
theorem wi_X6_firstWrong_X2 : ∀ w ∈ wsX20, w ∈ wp_X6_firstWrong := fun w h => List.mem_cons_of_mem _ (List.mem_append_left _ (List.mem_append_left _ (List.mem_append_right _ h)))
theorem wi_X6_firstWrong_X4 : ∀ w ∈ wsX40, w ∈ wp_X6_firstWrong := fun w h => List.mem_cons_of_mem _ (List.mem_append_left _ (List.mem_append_right _ h))
theorem wi_X6_firstWrong_X6 : ∀ w ∈ wsX60, w ∈ wp_X6_firstWrong := fun w h => List.mem_cons_of_mem _ (List.mem_append_right _ h)
set_option maxHeartbeats 4000000 in
set_option maxRecDepth 100000 in
theorem c_X6_firstWrong (l : Launch) (D : va_G) (sz t0 : Nat) (σ : sm_S) (α : sm_A) (K : Int32 → sm_S → Prop) (hF : mp_X6_firstWrong σ K) : Met l yX6_firstWrong wp_X6_firstWrong { frames := 6, cells := 0, slots := 0, locals := 139 } (sm_P sm_wX sm_tX 37 D sz t0 σ α [.ref (α.1 6)]) (va_Qi K (sm_B sm_wX D α) (sm_a α 37 sz)) 0 0 (sm_a α 37 sz) := by
  refine Met.ofW (cc := cX6_firstWrong) (maxL := 2) (ret := (some .int)) (by decide) rfl ?_
  intro p e s m args below meth c s₁ B hml hv
  obtain ⟨rfl, hsz, hP, hK, hD0, hE⟩ := hv
  have hx := B.exec
  have hb := B.bytes
  have hr := B.returns
  have hts := atoms_spec (ws := wp_X6_firstWrong) B.pre
  have hown : s.vm.findClass RX6 = some m.cls := findClass_of_methodNamed B.named
  have hlocks := B.notSynchronized
  subst hsz
  have hD : sm_D (sm_a α 37 s.heap.size) α 37 := hD0.own
  have hA : ∀ q : Nat, s.heap.size ≤ q → sm_a α 37 s.heap.size q := fun q h => Or.inr h
  generalize hAe : sm_a α 37 s.heap.size = A at hD hA hE ⊢
  have hS : va_S A s.heap s.heap [] := va_S.rf
  have in_X0 : ∀ w ∈ wsX00, w ∈ wp_X6_firstWrong := wi_X6_firstWrong_X0
  have in_X2 : ∀ w ∈ wsX20, w ∈ wp_X6_firstWrong := wi_X6_firstWrong_X2
  have in_X4 : ∀ w ∈ wsX40, w ∈ wp_X6_firstWrong := wi_X6_firstWrong_X4
  have in_X6 : ∀ w ∈ wsX60, w ∈ wp_X6_firstWrong := wi_X6_firstWrong_X6
  have k_0 := hts (.fieldLink RX6 31 "SteadyMachine$Reader" "wrong" "I") (by decide +kernel)
  have k_1 := hts (.fieldLink RX6 27 "SteadyMachine$Reader" "at" "I") (by decide +kernel)
  have k_2 := hts (.fieldLink RX6 9 "SteadyMachine$Reader" "image" "LSteadyMachine$Image;") (by decide +kernel)
  have k_3 := hts (.fieldLink RX6 60 "SteadyMachine$Image" "size" "I") (by decide +kernel)
  have k_4 := hts (.fieldLink RX6 26 "SteadyMachine$Reader" "methods" "LSteadyMachine$Methods;") (by decide +kernel)
  have k_5 := hts (.fieldLink RX6 51 "SteadyMachine$Methods" "many" "I") (by decide +kernel)
  have k_6 := hts (.fieldLink RX6 21 "SteadyMachine$Reader" "classes" "LSteadyMachine$Classes;") (by decide +kernel)
  have k_7 := hts (.fieldLink RX6 47 "SteadyMachine$Classes" "thrown" "[I") (by decide +kernel)
  have k_8 := hts (.fieldLink RX6 38 "SteadyMachine$Classes" "many" "I") (by decide +kernel)
  have hl := lv_entry ([.ref (α.1 6)]) (n := 2) (Nat.le_of_ble_eq_true rfl)
  rw [lg_entry_eq]
  generalize (lg_sl ([.ref (α.1 6)]) ++ List.replicate (2 - (lg_sl ([.ref (α.1 6)])).length) Slot.unset).toArray = ls at hl ⊢
  have hl : lv_has ls 2 [(0, .ref (α.1 6))] := hl
  have B175 : ∀ (σ : sm_S), mp_X6_firstWrong_175 K σ → sm_J p l e (headSpec wp_X6_firstWrong { frames := 6, cells := 0, slots := 0, locals := 139 }).room s m ([.ref (α.1 6)] : List Value).toArray below meth c (MQ below (va_Qi K (sm_B sm_wX D α) A) ([.ref (α.1 6)] : List Value).toArray s 0 0 A) D A 2 (sm_wX σ α) 175 [(0, .ref (α.1 6))] [] := by
    intro σ hF H locs ls hP hS hl
    unfold mp_X6_firstWrong_175 at hF
    refine lv_aload_n hx hb dX6_firstWrong_175 rfl (lv_at hl 0 rfl) ?_
    refine va_get (D := D) (ci := 6) (v := .int (σ.1 21)) (C := RX6) (T := TX6) (N := 5) hx hb hts in_X6 hown hK hP 6 (sm_gX6 σ α) rfl 4 (by decide) k_0 (fun _ h9 => h9) rfl dX6_firstWrong_176 ?_
    exact W.iret (v := (σ.1 21)) hx hb hr (fun t ht hW => ⟨⟨(σ.1 21), σ, rfl, hF, (by unfold sm_B; rw [ht]; exact hP)⟩, hS.F ht⟩) hS.2.2 dX6_firstWrong_179
  have B141 : ∀ (σ : sm_S), mp_X6_firstWrong_141 K σ → sm_J p l e (headSpec wp_X6_firstWrong { frames := 6, cells := 0, slots := 0, locals := 139 }).room s m ([.ref (α.1 6)] : List Value).toArray below meth c (MQ below (va_Qi K (sm_B sm_wX D α) A) ([.ref (α.1 6)] : List Value).toArray s 0 0 A) D A 2 (sm_wX σ α) 141 [(0, .ref (α.1 6))] [] := by
    intro σ hF H locs ls hP hS hl
    unfold mp_X6_firstWrong_141 at hF
    refine lv_aload_n hx hb dX6_firstWrong_141 rfl (lv_at hl 0 rfl) ?_
    refine sm_vv (As := []) (rest := []) hP hK hD hE hS hA ⟨hx, hb, hml, hown, hts⟩ hl.1 (c_X6_readFirst l D H.size t0 σ α _ hF) (cwV 0 hts wg_X6_firstWrong_X6_readFirst_57 rfl rfl rfl (by decide +kernel) ⟨Nat.le_of_ble_eq_true rfl, Nat.le_of_ble_eq_true rfl⟩) (va_recv hK hP (ci := 6) (q0 := 6) rfl (sm_gX6 σ α)) rfl rfl (Nat.le_of_ble_eq_true rfl) dX6_firstWrong_142 ⟨Nat.zero_le _, Nat.zero_le _⟩ (fun σ1 H locs hF hP hS => ?_)
    refine lv_aload_n hx hb dX6_firstWrong_145 rfl (lv_at hl 0 rfl) ?_
    refine va_get (D := D) (ci := 6) (v := .int (σ1.1 21)) (C := RX6) (T := TX6) (N := 5) hx hb hts in_X6 hown hK hP 6 (sm_gX6 σ1 α) rfl 4 (by decide) k_0 (fun _ h9 => h9) rfl dX6_firstWrong_146 ?_
    refine lv_iconst (v := -1) hx hb dX6_firstWrong_149 (by decide) ?_
    refine lv_icmp_ne (tgt := 175) hx hb dX6_firstWrong_150 (by decide) (fun h2 => ?_) (fun h2 => ?_)
    · replace hF := hF.1 h2
      exact B175 σ1 hF H locs ls hP hS (lv_sub hl [0] rfl)
    · replace hF := hF.2 h2
      refine lv_aload_n hx hb dX6_firstWrong_153 rfl (lv_at hl 0 rfl) ?_
      refine va_get (D := D) (ci := 6) (v := .int (σ1.1 20)) (C := RX6) (T := TX6) (N := 5) hx hb hts in_X6 hown hK hP 6 (sm_gX6 σ1 α) rfl 3 (by decide) k_1 (fun _ h9 => h9) rfl dX6_firstWrong_154 ?_
      refine lv_aload_n hx hb dX6_firstWrong_157 rfl (lv_at hl 0 rfl) ?_
      refine va_get (D := D) (ci := 6) (v := .ref (α.1 2)) (C := RX6) (T := TX6) (N := 5) hx hb hts in_X6 hown hK hP 6 (sm_gX6 σ1 α) rfl 0 (by decide) k_2 (fun _ h9 => h9) rfl dX6_firstWrong_158 ?_
      refine va_get (D := D) (ci := 2) (v := .int (σ1.1 14)) (C := RX2) (T := TX2) (N := 6) hx hb hts in_X2 hown hK hP 2 (sm_gX2 σ1 α) rfl 4 (by decide) k_3 (fun _ h9 => h9) rfl dX6_firstWrong_161 ?_
      refine lv_icmp_ge (tgt := 175) hx hb dX6_firstWrong_164 (by decide) (fun h3 => ?_) (fun h3 => ?_)
      · replace hF := hF.1 h3
        exact B175 σ1 hF H locs ls hP hS (lv_sub hl [0] rfl)
      · replace hF := hF.2 h3
        refine lv_aload_n hx hb dX6_firstWrong_167 rfl (lv_at hl 0 rfl) ?_
        refine lv_aload_n hx hb dX6_firstWrong_168 rfl (lv_at hl 0 rfl) ?_
        refine va_get (D := D) (ci := 6) (v := .int (σ1.1 20)) (C := RX6) (T := TX6) (N := 5) hx hb hts in_X6 hown hK hP 6 (sm_gX6 σ1 α) rfl 3 (by decide) k_1 (fun _ h9 => h9) rfl dX6_firstWrong_169 ?_
        refine va_put (D := D) (ci := 6) (v := .int (σ1.1 20)) (ty := .int) (C := RX6) (T := TX6) (N := 5) hx hb hts in_X6 tyX6 tyX6_ok nmX6 hown hK hP (hD.to (sm_wX_m _ _)) hS 6 (sm_gX6 σ1 α) rfl 4 (by decide) k_0 (fun _ h9 => h9) rfl (by decide +kernel) rfl rfl (Nat.le_of_ble_eq_true rfl) dX6_firstWrong_172 (fun H locs hP _ hS => ?_)
        rw [sm_iX21] at hP
        obtain ⟨σ4, eσ4⟩ : ∃ x : sm_S, x = sm_i σ1 21 (σ1.1 20) := ⟨_, rfl⟩
        replace hF := hF σ4 eσ4
        rw [← eσ4] at hP
        exact B175 σ4 hF H locs ls hP hS (lv_sub hl [0] rfl)
  have B111 : ∀ (n : Nat) (σ : sm_S) (x1 : Int32), mp_X6_firstWrong_111 K n σ x1 → sm_J p l e (headSpec wp_X6_firstWrong { frames := 6, cells := 0, slots := 0, locals := 139 }).room s m ([.ref (α.1 6)] : List Value).toArray below meth c (MQ below (va_Qi K (sm_B sm_wX D α) A) ([.ref (α.1 6)] : List Value).toArray s 0 0 A) D A 2 (sm_wX σ α) 111 [(0, .ref (α.1 6)), (1, .int x1)] [] := by
    intro n111
    induction n111 with
    | zero =>
      intro σ x1 hF
      exact hF.elim
    | succ n111 ih111 =>
      intro σ x1 hF H locs ls hP hS hl
      unfold mp_X6_firstWrong_111 at hF
      refine lv_iload_n hx hb dX6_firstWrong_111 rfl (lv_at hl 1 rfl) ?_
      refine lv_aload_n hx hb dX6_firstWrong_112 rfl (lv_at hl 0 rfl) ?_
      refine va_get (D := D) (ci := 6) (v := .ref (α.1 4)) (C := RX6) (T := TX6) (N := 5) hx hb hts in_X6 hown hK hP 6 (sm_gX6 σ α) rfl 2 (by decide) k_4 (fun _ h9 => h9) rfl dX6_firstWrong_113 ?_
      refine va_get (D := D) (ci := 4) (v := .int (σ.1 16)) (C := RX4) (T := TX4) (N := 12) hx hb hts in_X4 hown hK hP 4 (sm_gX4 σ α) rfl 0 (by decide) k_5 (fun _ h9 => h9) rfl dX6_firstWrong_116 ?_
      refine lv_icmp_ge (tgt := 141) hx hb dX6_firstWrong_119 (by decide) (fun h5 => ?_) (fun h5 => ?_)
      · replace hF := hF.1 h5
        exact B141 σ hF H locs ls hP hS (lv_sub hl [0] rfl)
      · replace hF := hF.2 h5
        refine lv_aload_n hx hb dX6_firstWrong_122 rfl (lv_at hl 0 rfl) ?_
        refine va_get (D := D) (ci := 6) (v := .int (σ.1 21)) (C := RX6) (T := TX6) (N := 5) hx hb hts in_X6 hown hK hP 6 (sm_gX6 σ α) rfl 4 (by decide) k_0 (fun _ h9 => h9) rfl dX6_firstWrong_123 ?_
        refine lv_iconst (v := -1) hx hb dX6_firstWrong_126 (by decide) ?_
        refine lv_icmp_ne (tgt := 141) hx hb dX6_firstWrong_127 (by decide) (fun h6 => ?_) (fun h6 => ?_)
        · replace hF := hF.1 h6
          exact B141 σ hF H locs ls hP hS (lv_sub hl [0] rfl)
        · replace hF := hF.2 h6
          refine lv_aload_n hx hb dX6_firstWrong_130 rfl (lv_at hl 0 rfl) ?_
          refine lv_iload_n hx hb dX6_firstWrong_131 rfl (lv_at hl 1 rfl) ?_
          refine sm_vv (As := [.int x1]) (rest := []) hP hK hD hE hS hA ⟨hx, hb, hml, hown, hts⟩ hl.1 (c_X6_readMethod l D H.size t0 σ α x1 _ hF) (cwV 1 hts wg_X6_firstWrong_X6_readMethod_54 rfl rfl rfl (by decide +kernel) ⟨Nat.le_of_ble_eq_true rfl, Nat.le_of_ble_eq_true rfl⟩) (va_recv hK hP (ci := 6) (q0 := 6) rfl (sm_gX6 σ α)) rfl rfl (Nat.le_of_ble_eq_true rfl) dX6_firstWrong_132 ⟨Nat.zero_le _, Nat.zero_le _⟩ (fun σ7 H locs hF hP hS => ?_)
          obtain ⟨v8, ev8⟩ : ∃ y : Int32, y = x1 + 1 := ⟨_, rfl⟩
          replace hF := hF v8 ev8
          refine lv_iinc (v := v8) (lv' := [(1, .int v8), (0, .ref (α.1 6))]) hx hb dX6_firstWrong_135 hl (k := 1) rfl (by rw [ev8]; rfl) (by decide) rfl (fun ls hl => ?_)
          refine lv_goto (tgt := 111) hx hb dX6_firstWrong_138 (by decide) ?_
          exact ih111 σ7 v8 hF H locs ls hP hS (lv_sub hl [1, 0] rfl)
  have B59 : ∀ (n : Nat) (σ : sm_S) (x1 : Int32), mp_X6_firstWrong_59 K n σ x1 → sm_J p l e (headSpec wp_X6_firstWrong { frames := 6, cells := 0, slots := 0, locals := 139 }).room s m ([.ref (α.1 6)] : List Value).toArray below meth c (MQ below (va_Qi K (sm_B sm_wX D α) A) ([.ref (α.1 6)] : List Value).toArray s 0 0 A) D A 2 (sm_wX σ α) 59 [(0, .ref (α.1 6)), (1, .int x1)] [] := by
    intro n59
    induction n59 with
    | zero =>
      intro σ x1 hF
      exact hF.elim
    | succ n59 ih59 =>
      intro σ x1 hF H locs ls hP hS hl
      unfold mp_X6_firstWrong_59 at hF
      refine lv_iload_n hx hb dX6_firstWrong_59 rfl (lv_at hl 1 rfl) ?_
      refine lv_iconst (v := 5) hx hb dX6_firstWrong_60 (by decide) ?_
      refine lv_icmp_ge (tgt := 94) hx hb dX6_firstWrong_61 (by decide) (fun h9 => ?_) (fun h9 => ?_)
      · replace hF := hF.1 h9
        refine lv_aload_n hx hb dX6_firstWrong_94 rfl (lv_at hl 0 rfl) ?_
        refine va_get (D := D) (ci := 6) (v := .ref (α.1 4)) (C := RX6) (T := TX6) (N := 5) hx hb hts in_X6 hown hK hP 6 (sm_gX6 σ α) rfl 2 (by decide) k_4 (fun _ h9 => h9) rfl dX6_firstWrong_95 ?_
        refine lv_aload_n hx hb dX6_firstWrong_98 rfl (lv_at hl 0 rfl) ?_
        refine lv_iconst (v := 1) hx hb dX6_firstWrong_99 (by decide) ?_
        refine lv_bipush (v := 64) hx hb dX6_firstWrong_100 (by decide) ?_
        refine lv_iconst (v := -1) hx hb dX6_firstWrong_102 (by decide) ?_
        refine sm_vi (As := [.int 1, .int 64, .int (-1)]) (rest := [.ref (α.1 4)]) hP hK hD hE hS hA ⟨hx, hb, hml, hown, hts⟩ hl.1 (c_X6_number l D H.size t0 σ α 1 64 (-1) _ hF) (cwV 3 hts wg_X6_firstWrong_X6_number_34 rfl rfl rfl (by decide +kernel) ⟨Nat.le_of_ble_eq_true rfl, Nat.le_of_ble_eq_true rfl⟩) (va_recv hK hP (ci := 6) (q0 := 6) rfl (sm_gX6 σ α)) rfl rfl (Nat.le_of_ble_eq_true rfl) dX6_firstWrong_103 ⟨Nat.zero_le _, Nat.zero_le _⟩ (fun r11 σ10 H locs hF hP hS => ?_)
        refine va_put (D := D) (ci := 4) (v := .int r11) (ty := .int) (C := RX4) (T := TX4) (N := 12) hx hb hts in_X4 tyX4 tyX4_ok nmX4 hown hK hP (hD.to (sm_wX_m _ _)) hS 4 (sm_gX4 σ10 α) rfl 0 (by decide) k_5 (fun _ h9 => h9) rfl (by decide +kernel) rfl rfl (Nat.le_of_ble_eq_true rfl) dX6_firstWrong_106 (fun H locs hP _ hS => ?_)
        rw [sm_iX16] at hP
        obtain ⟨σ12, eσ12⟩ : ∃ x : sm_S, x = sm_i σ10 16 r11 := ⟨_, rfl⟩
        replace hF := hF σ12 eσ12
        rw [← eσ12] at hP
        refine lv_iconst (v := 0) hx hb dX6_firstWrong_109 (by decide) ?_
        refine lv_istore_n (lv' := [(1, .int 0), (0, .ref (α.1 6))]) hx hb dX6_firstWrong_110 rfl hl (by decide) rfl (fun ls hl => ?_)
        obtain ⟨n111, hF⟩ := hF
        exact B111 n111 σ12 0 hF H locs ls hP hS (lv_sub hl [1, 0] rfl)
      · replace hF := hF.2 h9
        refine lv_aload_n hx hb dX6_firstWrong_64 rfl (lv_at hl 0 rfl) ?_
        refine va_get (D := D) (ci := 6) (v := .ref (α.1 0)) (C := RX6) (T := TX6) (N := 5) hx hb hts in_X6 hown hK hP 6 (sm_gX6 σ α) rfl 1 (by decide) k_6 (fun _ h9 => h9) rfl dX6_firstWrong_65 ?_
        refine va_get (D := D) (ci := 0) (v := .ref (α.1 16)) (C := RX0) (T := TX0) (N := 7) hx hb hts in_X0 hown hK hP 0 (sm_gX0 σ α) rfl 6 (by decide) k_7 (fun _ h9 => h9) rfl dX6_firstWrong_68 ?_
        refine lv_iload_n hx hb dX6_firstWrong_71 rfl (lv_at hl 1 rfl) ?_
        refine lv_aload_n hx hb dX6_firstWrong_72 rfl (lv_at hl 0 rfl) ?_
        refine lv_iconst (v := 0) hx hb dX6_firstWrong_73 (by decide) ?_
        refine lv_aload_n hx hb dX6_firstWrong_74 rfl (lv_at hl 0 rfl) ?_
        refine va_get (D := D) (ci := 6) (v := .ref (α.1 0)) (C := RX6) (T := TX6) (N := 5) hx hb hts in_X6 hown hK hP 6 (sm_gX6 σ α) rfl 1 (by decide) k_6 (fun _ h9 => h9) rfl dX6_firstWrong_75 ?_
        refine va_get (D := D) (ci := 0) (v := .int (σ.1 0)) (C := RX0) (T := TX0) (N := 7) hx hb hts in_X0 hown hK hP 0 (sm_gX0 σ α) rfl 0 (by decide) k_8 (fun _ h9 => h9) rfl dX6_firstWrong_78 ?_
        refine lv_iconst (v := 1) hx hb dX6_firstWrong_81 (by decide) ?_
        refine lv_isub hx hb dX6_firstWrong_82 ?_
        refine lv_iconst (v := -1) hx hb dX6_firstWrong_83 (by decide) ?_
        refine sm_vi (As := [.int 0, .int ((σ.1 0) - 1), .int (-1)]) (rest := [.int x1, .ref (α.1 16)]) hP hK hD hE hS hA ⟨hx, hb, hml, hown, hts⟩ hl.1 (c_X6_number l D H.size t0 σ α 0 ((σ.1 0) - 1) (-1) _ hF) (cwV 3 hts wg_X6_firstWrong_X6_number_34 rfl rfl rfl (by decide +kernel) ⟨Nat.le_of_ble_eq_true rfl, Nat.le_of_ble_eq_true rfl⟩) (va_recv hK hP (ci := 6) (q0 := 6) rfl (sm_gX6 σ α)) rfl rfl (Nat.le_of_ble_eq_true rfl) dX6_firstWrong_84 ⟨Nat.zero_le _, Nat.zero_le _⟩ (fun r14 σ13 H locs hF hP hS => ?_)
        obtain ⟨h15, hF⟩ := hF
        refine va_iast (n := (σ13.2.2.1 16)) (f := (σ13.2.2.2.1 16)) (x := r14) hx hb hK hP (hD.to (sm_wX_m _ _)) hS 16 5 (sm_aX16 σ13 α) (sm_yX16 α) h15 dX6_firstWrong_87 (fun H locs hP _ hS => ?_)
        rw [sm_rX16] at hP
        obtain ⟨σ16, eσ16⟩ : ∃ x : sm_S, x = sm_r σ13 16 (upd (σ13.2.2.2.1 16) x1.toNatClampNeg r14) := ⟨_, rfl⟩
        replace hF := hF σ16 eσ16
        rw [← eσ16] at hP
        obtain ⟨v17, ev17⟩ : ∃ y : Int32, y = x1 + 1 := ⟨_, rfl⟩
        replace hF := hF v17 ev17
        refine lv_iinc (v := v17) (lv' := [(1, .int v17), (0, .ref (α.1 6))]) hx hb dX6_firstWrong_88 hl (k := 1) rfl (by rw [ev17]; rfl) (by decide) rfl (fun ls hl => ?_)
        refine lv_goto (tgt := 59) hx hb dX6_firstWrong_91 (by decide) ?_
        exact ih59 σ16 v17 hF H locs ls hP hS (lv_sub hl [1, 0] rfl)
  have B57 : ∀ (σ : sm_S), mp_X6_firstWrong_57 K σ → sm_J p l e (headSpec wp_X6_firstWrong { frames := 6, cells := 0, slots := 0, locals := 139 }).room s m ([.ref (α.1 6)] : List Value).toArray below meth c (MQ below (va_Qi K (sm_B sm_wX D α) A) ([.ref (α.1 6)] : List Value).toArray s 0 0 A) D A 2 (sm_wX σ α) 57 [(0, .ref (α.1 6))] [] := by
    intro σ hF H locs ls hP hS hl
    unfold mp_X6_firstWrong_57 at hF
    refine lv_iconst (v := 0) hx hb dX6_firstWrong_57 (by decide) ?_
    refine lv_istore_n (lv' := [(1, .int 0), (0, .ref (α.1 6))]) hx hb dX6_firstWrong_58 rfl hl (by decide) rfl (fun ls hl => ?_)
    obtain ⟨n59, hF⟩ := hF
    exact B59 n59 σ 0 hF H locs ls hP hS (lv_sub hl [1, 0] rfl)
  have B27 : ∀ (n : Nat) (σ : sm_S) (x1 : Int32), mp_X6_firstWrong_27 K n σ x1 → sm_J p l e (headSpec wp_X6_firstWrong { frames := 6, cells := 0, slots := 0, locals := 139 }).room s m ([.ref (α.1 6)] : List Value).toArray below meth c (MQ below (va_Qi K (sm_B sm_wX D α) A) ([.ref (α.1 6)] : List Value).toArray s 0 0 A) D A 2 (sm_wX σ α) 27 [(0, .ref (α.1 6)), (1, .int x1)] [] := by
    intro n27
    induction n27 with
    | zero =>
      intro σ x1 hF
      exact hF.elim
    | succ n27 ih27 =>
      intro σ x1 hF H locs ls hP hS hl
      unfold mp_X6_firstWrong_27 at hF
      refine lv_iload_n hx hb dX6_firstWrong_27 rfl (lv_at hl 1 rfl) ?_
      refine lv_aload_n hx hb dX6_firstWrong_28 rfl (lv_at hl 0 rfl) ?_
      refine va_get (D := D) (ci := 6) (v := .ref (α.1 0)) (C := RX6) (T := TX6) (N := 5) hx hb hts in_X6 hown hK hP 6 (sm_gX6 σ α) rfl 1 (by decide) k_6 (fun _ h9 => h9) rfl dX6_firstWrong_29 ?_
      refine va_get (D := D) (ci := 0) (v := .int (σ.1 0)) (C := RX0) (T := TX0) (N := 7) hx hb hts in_X0 hown hK hP 0 (sm_gX0 σ α) rfl 0 (by decide) k_8 (fun _ h9 => h9) rfl dX6_firstWrong_32 ?_
      refine lv_icmp_ge (tgt := 57) hx hb dX6_firstWrong_35 (by decide) (fun h18 => ?_) (fun h18 => ?_)
      · replace hF := hF.1 h18
        exact B57 σ hF H locs ls hP hS (lv_sub hl [0] rfl)
      · replace hF := hF.2 h18
        refine lv_aload_n hx hb dX6_firstWrong_38 rfl (lv_at hl 0 rfl) ?_
        refine va_get (D := D) (ci := 6) (v := .int (σ.1 21)) (C := RX6) (T := TX6) (N := 5) hx hb hts in_X6 hown hK hP 6 (sm_gX6 σ α) rfl 4 (by decide) k_0 (fun _ h9 => h9) rfl dX6_firstWrong_39 ?_
        refine lv_iconst (v := -1) hx hb dX6_firstWrong_42 (by decide) ?_
        refine lv_icmp_ne (tgt := 57) hx hb dX6_firstWrong_43 (by decide) (fun h19 => ?_) (fun h19 => ?_)
        · replace hF := hF.1 h19
          exact B57 σ hF H locs ls hP hS (lv_sub hl [0] rfl)
        · replace hF := hF.2 h19
          refine lv_aload_n hx hb dX6_firstWrong_46 rfl (lv_at hl 0 rfl) ?_
          refine lv_iload_n hx hb dX6_firstWrong_47 rfl (lv_at hl 1 rfl) ?_
          refine sm_vv (As := [.int x1]) (rest := []) hP hK hD hE hS hA ⟨hx, hb, hml, hown, hts⟩ hl.1 (c_X6_readClass l D H.size t0 σ α x1 _ hF) (cwV 1 hts wg_X6_firstWrong_X6_readClass_43 rfl rfl rfl (by decide +kernel) ⟨Nat.le_of_ble_eq_true rfl, Nat.le_of_ble_eq_true rfl⟩) (va_recv hK hP (ci := 6) (q0 := 6) rfl (sm_gX6 σ α)) rfl rfl (Nat.le_of_ble_eq_true rfl) dX6_firstWrong_48 ⟨Nat.zero_le _, Nat.zero_le _⟩ (fun σ20 H locs hF hP hS => ?_)
          obtain ⟨v21, ev21⟩ : ∃ y : Int32, y = x1 + 1 := ⟨_, rfl⟩
          replace hF := hF v21 ev21
          refine lv_iinc (v := v21) (lv' := [(1, .int v21), (0, .ref (α.1 6))]) hx hb dX6_firstWrong_51 hl (k := 1) rfl (by rw [ev21]; rfl) (by decide) rfl (fun ls hl => ?_)
          refine lv_goto (tgt := 27) hx hb dX6_firstWrong_54 (by decide) ?_
          exact ih27 σ20 v21 hF H locs ls hP hS (lv_sub hl [1, 0] rfl)
  unfold mp_X6_firstWrong at hF
  revert hP hS
  generalize hLo : ([] : List Loc) = locs
  suffices h9 : ∀ (H : Heap) (locs : List Loc), va_P D vwCl (sm_wX σ α) H → va_S A s.heap H locs → W p l e (headSpec wp_X6_firstWrong { frames := 6, cells := 0, slots := 0, locals := 139 }).room s m ([.ref (α.1 6)] : List Value).toArray below meth c H locs 0 0 (MQ below (va_Qi K (sm_B sm_wX D α) A) ([.ref (α.1 6)] : List Value).toArray s 0 0 A) (F0 m 0 ls []) from fun hP hS => h9 s.heap locs hP hS
  intro H locs hP hS
  refine lv_aload_n hx hb dX6_firstWrong_0 rfl (lv_at hl 0 rfl) ?_
  refine lv_iconst (v := 0) hx hb dX6_firstWrong_1 (by decide) ?_
  refine va_put (D := D) (ci := 6) (v := .int 0) (ty := .int) (C := RX6) (T := TX6) (N := 5) hx hb hts in_X6 tyX6 tyX6_ok nmX6 hown hK hP (hD.to (sm_wX_m _ _)) hS 6 (sm_gX6 σ α) rfl 3 (by decide) k_1 (fun _ h9 => h9) rfl (by decide +kernel) rfl rfl (Nat.le_of_ble_eq_true rfl) dX6_firstWrong_2 (fun H locs hP _ hS => ?_)
  rw [sm_iX20] at hP
  obtain ⟨σ22, eσ22⟩ : ∃ x : sm_S, x = sm_i σ 20 0 := ⟨_, rfl⟩
  replace hF := hF σ22 eσ22
  rw [← eσ22] at hP
  refine lv_aload_n hx hb dX6_firstWrong_5 rfl (lv_at hl 0 rfl) ?_
  refine lv_iconst (v := -1) hx hb dX6_firstWrong_6 (by decide) ?_
  refine va_put (D := D) (ci := 6) (v := .int (-1)) (ty := .int) (C := RX6) (T := TX6) (N := 5) hx hb hts in_X6 tyX6 tyX6_ok nmX6 hown hK hP (hD.to (sm_wX_m _ _)) hS 6 (sm_gX6 σ22 α) rfl 4 (by decide) k_0 (fun _ h9 => h9) rfl (by decide +kernel) rfl rfl (Nat.le_of_ble_eq_true rfl) dX6_firstWrong_7 (fun H locs hP _ hS => ?_)
  rw [sm_iX21] at hP
  obtain ⟨σ23, eσ23⟩ : ∃ x : sm_S, x = sm_i σ22 21 (-1) := ⟨_, rfl⟩
  replace hF := hF σ23 eσ23
  rw [← eσ23] at hP
  refine lv_aload_n hx hb dX6_firstWrong_10 rfl (lv_at hl 0 rfl) ?_
  refine va_get (D := D) (ci := 6) (v := .ref (α.1 0)) (C := RX6) (T := TX6) (N := 5) hx hb hts in_X6 hown hK hP 6 (sm_gX6 σ23 α) rfl 1 (by decide) k_6 (fun _ h9 => h9) rfl dX6_firstWrong_11 ?_
  refine lv_aload_n hx hb dX6_firstWrong_14 rfl (lv_at hl 0 rfl) ?_
  refine lv_iconst (v := 1) hx hb dX6_firstWrong_15 (by decide) ?_
  refine lv_bipush (v := 32) hx hb dX6_firstWrong_16 (by decide) ?_
  refine lv_iconst (v := -1) hx hb dX6_firstWrong_18 (by decide) ?_
  refine sm_vi (As := [.int 1, .int 32, .int (-1)]) (rest := [.ref (α.1 0)]) hP hK hD hE hS hA ⟨hx, hb, hml, hown, hts⟩ hl.1 (c_X6_number l D H.size t0 σ23 α 1 32 (-1) _ hF) (cwV 3 hts wg_X6_firstWrong_X6_number_34 rfl rfl rfl (by decide +kernel) ⟨Nat.le_of_ble_eq_true rfl, Nat.le_of_ble_eq_true rfl⟩) (va_recv hK hP (ci := 6) (q0 := 6) rfl (sm_gX6 σ23 α)) rfl rfl (Nat.le_of_ble_eq_true rfl) dX6_firstWrong_19 ⟨Nat.zero_le _, Nat.zero_le _⟩ (fun r25 σ24 H locs hF hP hS => ?_)
  refine va_put (D := D) (ci := 0) (v := .int r25) (ty := .int) (C := RX0) (T := TX0) (N := 7) hx hb hts in_X0 tyX0 tyX0_ok nmX0 hown hK hP (hD.to (sm_wX_m _ _)) hS 0 (sm_gX0 σ24 α) rfl 0 (by decide) k_8 (fun _ h9 => h9) rfl (by decide +kernel) rfl rfl (Nat.le_of_ble_eq_true rfl) dX6_firstWrong_22 (fun H locs hP _ hS => ?_)
  rw [sm_iX0] at hP
  obtain ⟨σ26, eσ26⟩ : ∃ x : sm_S, x = sm_i σ24 0 r25 := ⟨_, rfl⟩
  replace hF := hF σ26 eσ26
  rw [← eσ26] at hP
  refine lv_iconst (v := 0) hx hb dX6_firstWrong_25 (by decide) ?_
  refine lv_istore_n (lv' := [(1, .int 0), (0, .ref (α.1 6))]) hx hb dX6_firstWrong_26 rfl hl (by decide) rfl (fun ls hl => ?_)
  obtain ⟨n27, hF⟩ := hF
  exact B27 n27 σ26 0 hF H locs ls hP hS (lv_sub hl [1, 0] rfl)
