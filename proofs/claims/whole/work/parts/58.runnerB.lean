theorem dX7_makeObject_0 : decode cX7_makeObject 0 = .ok (.aload_n 0, 1) := by decide +kernel
theorem dX7_makeObject_1 : decode cX7_makeObject 1 = .ok (.getfield 21, 3) := by decide +kernel
theorem dX7_makeObject_4 : decode cX7_makeObject 4 = .ok (.getfield 197, 3) := by decide +kernel
theorem dX7_makeObject_7 : decode cX7_makeObject 7 = .ok (.iload_n 1, 1) := by decide +kernel
theorem dX7_makeObject_8 : decode cX7_makeObject 8 = .ok (.iaload, 1) := by decide +kernel
theorem dX7_makeObject_9 : decode cX7_makeObject 9 = .ok (.istore_n 2, 1) := by decide +kernel
theorem dX7_makeObject_10 : decode cX7_makeObject 10 = .ok (.aload_n 0, 1) := by decide +kernel
theorem dX7_makeObject_11 : decode cX7_makeObject 11 = .ok (.getfield 27, 3) := by decide +kernel
theorem dX7_makeObject_14 : decode cX7_makeObject 14 = .ok (.iconst 1, 1) := by decide +kernel
theorem dX7_makeObject_15 : decode cX7_makeObject 15 = .ok (.iload_n 2, 1) := by decide +kernel
theorem dX7_makeObject_16 : decode cX7_makeObject 16 = .ok (.iadd, 1) := by decide +kernel
theorem dX7_makeObject_17 : decode cX7_makeObject 17 = .ok (.invokevirtual 200, 3) := by decide +kernel
theorem dX7_makeObject_20 : decode cX7_makeObject 20 = .ok (.istore_n 3, 1) := by decide +kernel
theorem dX7_makeObject_21 : decode cX7_makeObject 21 = .ok (.iload_n 3, 1) := by decide +kernel
theorem dX7_makeObject_22 : decode cX7_makeObject 22 = .ok (.ifCond .eq 81, 3) := by decide +kernel
theorem dX7_makeObject_25 : decode cX7_makeObject 25 = .ok (.aload_n 0, 1) := by decide +kernel
theorem dX7_makeObject_26 : decode cX7_makeObject 26 = .ok (.getfield 27, 3) := by decide +kernel
theorem dX7_makeObject_29 : decode cX7_makeObject 29 = .ok (.iload_n 3, 1) := by decide +kernel
theorem dX7_makeObject_30 : decode cX7_makeObject 30 = .ok (.iconst 2, 1) := by decide +kernel
theorem dX7_makeObject_31 : decode cX7_makeObject 31 = .ok (.iload_n 1, 1) := by decide +kernel
theorem dX7_makeObject_32 : decode cX7_makeObject 32 = .ok (.invokestatic 139, 3) := by decide +kernel
theorem dX7_makeObject_35 : decode cX7_makeObject 35 = .ok (.invokevirtual 110, 3) := by decide +kernel
theorem dX7_makeObject_38 : decode cX7_makeObject 38 = .ok (.iconst 0, 1) := by decide +kernel
theorem dX7_makeObject_39 : decode cX7_makeObject 39 = .ok (.istore 4, 2) := by decide +kernel
theorem dX7_makeObject_41 : decode cX7_makeObject 41 = .ok (.iload 4, 2) := by decide +kernel
theorem dX7_makeObject_43 : decode cX7_makeObject 43 = .ok (.iload_n 2, 1) := by decide +kernel
theorem dX7_makeObject_44 : decode cX7_makeObject 44 = .ok (.if_icmp .ge 59, 3) := by decide +kernel
theorem dX7_makeObject_47 : decode cX7_makeObject 47 = .ok (.aload_n 0, 1) := by decide +kernel
theorem dX7_makeObject_48 : decode cX7_makeObject 48 = .ok (.getfield 21, 3) := by decide +kernel
theorem dX7_makeObject_51 : decode cX7_makeObject 51 = .ok (.getfield 203, 3) := by decide +kernel
theorem dX7_makeObject_54 : decode cX7_makeObject 54 = .ok (.iload_n 1, 1) := by decide +kernel
theorem dX7_makeObject_55 : decode cX7_makeObject 55 = .ok (.bipush 15, 2) := by decide +kernel
theorem dX7_makeObject_57 : decode cX7_makeObject 57 = .ok (.imul, 1) := by decide +kernel
theorem dX7_makeObject_58 : decode cX7_makeObject 58 = .ok (.iload 4, 2) := by decide +kernel
theorem dX7_makeObject_60 : decode cX7_makeObject 60 = .ok (.iadd, 1) := by decide +kernel
theorem dX7_makeObject_61 : decode cX7_makeObject 61 = .ok (.iaload, 1) := by decide +kernel
theorem dX7_makeObject_62 : decode cX7_makeObject 62 = .ok (.ifCond .ne 7, 3) := by decide +kernel
theorem dX7_makeObject_65 : decode cX7_makeObject 65 = .ok (.iconst 1, 1) := by decide +kernel
theorem dX7_makeObject_66 : decode cX7_makeObject 66 = .ok (.goto 4, 3) := by decide +kernel
theorem dX7_makeObject_69 : decode cX7_makeObject 69 = .ok (.iconst 0, 1) := by decide +kernel
theorem dX7_makeObject_70 : decode cX7_makeObject 70 = .ok (.istore 5, 2) := by decide +kernel
theorem dX7_makeObject_72 : decode cX7_makeObject 72 = .ok (.aload_n 0, 1) := by decide +kernel
theorem dX7_makeObject_73 : decode cX7_makeObject 73 = .ok (.getfield 27, 3) := by decide +kernel
theorem dX7_makeObject_76 : decode cX7_makeObject 76 = .ok (.iload_n 3, 1) := by decide +kernel
theorem dX7_makeObject_77 : decode cX7_makeObject 77 = .ok (.iconst 1, 1) := by decide +kernel
theorem dX7_makeObject_78 : decode cX7_makeObject 78 = .ok (.iadd, 1) := by decide +kernel
theorem dX7_makeObject_79 : decode cX7_makeObject 79 = .ok (.iload 4, 2) := by decide +kernel
theorem dX7_makeObject_81 : decode cX7_makeObject 81 = .ok (.iadd, 1) := by decide +kernel
theorem dX7_makeObject_82 : decode cX7_makeObject 82 = .ok (.iload 5, 2) := by decide +kernel
theorem dX7_makeObject_84 : decode cX7_makeObject 84 = .ok (.ifCond .eq 7, 3) := by decide +kernel
theorem dX7_makeObject_87 : decode cX7_makeObject 87 = .ok (.lconst 0, 1) := by decide +kernel
theorem dX7_makeObject_88 : decode cX7_makeObject 88 = .ok (.goto 6, 3) := by decide +kernel
theorem dX7_makeObject_91 : decode cX7_makeObject 91 = .ok (.ldc2_w 153, 3) := by decide +kernel
theorem dX7_makeObject_94 : decode cX7_makeObject 94 = .ok (.invokevirtual 110, 3) := by decide +kernel
theorem dX7_makeObject_97 : decode cX7_makeObject 97 = .ok (.iinc 4 1, 3) := by decide +kernel
theorem dX7_makeObject_100 : decode cX7_makeObject 100 = .ok (.goto (-59), 3) := by decide +kernel
theorem dX7_makeObject_103 : decode cX7_makeObject 103 = .ok (.iload_n 3, 1) := by decide +kernel
theorem dX7_makeObject_104 : decode cX7_makeObject 104 = .ok (.ireturn, 1) := by decide +kernel
def wp_X7_makeObject : List Cond := .code yX7_makeObject cX7_makeObject 6 (some .int) :: ((((([.fieldLink RX7 27 "SteadyMachine$Runner" "heap" "LSteadyMachine$Heap;", .constantLong RX7 153 (4294967296), .fieldLink RX7 21 "SteadyMachine$Runner" "classes" "LSteadyMachine$Classes;", .fieldLink RX7 203 "SteadyMachine$Classes" "fieldType" "[I", .fieldLink RX7 197 "SteadyMachine$Classes" "fields" "[I"] ++ (wsV RX7 110 RX1 yX1_put wp_X1_put)) ++ (wsV RX7 200 RX1 yX1_make wp_X1_make)) ++ (va_wsS RX7 139 yX1_cell wp_X1_cell)) ++ wsX00) ++ wsX70)
theorem wq_X7_makeObject : wp_X7_makeObject.all goodWord = true := wa_c rfl (wa_a (wa_a (wa_a (wa_a (wa_a (by decide +kernel) (wa_V wq_X1_put)) (wa_V wq_X1_make)) (wa_S wq_X1_cell)) uq_X0) uq_X7)
theorem wt_X7_makeObject : GoodIn lw_tbl wp_X7_makeObject := wm_c (List.mem_of_getElem? (i := 1018) (by decide +kernel)) rfl (wm_a (wm_a (wm_a (wm_a (wm_a (goodIn_r _ [515, 987, 513, 184, 180] (by decide +kernel) (by decide +kernel)) (wm_a (goodIn_r _ [931, 923, 924, 144] (by decide +kernel) (by decide +kernel)) wt_X1_put)) (wm_a (goodIn_r _ [885, 886, 887, 144] (by decide +kernel) (by decide +kernel)) wt_X1_make)) (wm_a (goodIn_r _ [930, 919, 144] (by decide +kernel) (by decide +kernel)) wt_X1_cell)) ut_X0) ut_X7)
theorem wg_X7_makeObject_X1_put_110 : GoodIn wp_X7_makeObject (wsV RX7 110 RX1 yX1_put wp_X1_put) := goodIn_sub (fun w h => List.mem_cons_of_mem _ (List.mem_append_left _ (List.mem_append_left _ (List.mem_append_left _ (List.mem_append_left _ (List.mem_append_right _ h)))))) (wa_V wq_X1_put)
theorem wg_X7_makeObject_X1_make_200 : GoodIn wp_X7_makeObject (wsV RX7 200 RX1 yX1_make wp_X1_make) := goodIn_sub (fun w h => List.mem_cons_of_mem _ (List.mem_append_left _ (List.mem_append_left _ (List.mem_append_left _ (List.mem_append_right _ h))))) (wa_V wq_X1_make)
theorem wg_X7_makeObject_X1_cell_139 : GoodIn wp_X7_makeObject (va_wsS RX7 139 yX1_cell wp_X1_cell) := goodIn_sub (fun w h => List.mem_cons_of_mem _ (List.mem_append_left _ (List.mem_append_left _ (List.mem_append_right _ h)))) (wa_S wq_X1_cell)
theorem wi_X7_makeObject_X0 : ∀ w ∈ wsX00, w ∈ wp_X7_makeObject := fun w h => List.mem_cons_of_mem _ (List.mem_append_left _ (List.mem_append_right _ h))
theorem wi_X7_makeObject_X7 : ∀ w ∈ wsX70, w ∈ wp_X7_makeObject := fun w h => List.mem_cons_of_mem _ (List.mem_append_right _ h)
set_option maxHeartbeats 4000000 in
set_option maxRecDepth 100000 in
theorem c_X7_makeObject (l : Launch) (D : va_G) (sz t0 : Nat) (σ : sm_S) (α : sm_A) (p1 : Int32) (K : Int32 → sm_S → Prop) (hF : mp_X7_makeObject σ p1 K) : Met l yX7_makeObject wp_X7_makeObject { frames := 4, cells := 0, slots := 0, locals := 93 } (sm_P sm_wX sm_tX 37 D sz t0 σ α [.ref (α.1 7), .int p1]) (va_Qi K (sm_B sm_wX D α) (sm_a α 37 sz)) 0 0 (sm_a α 37 sz) := by
  refine Met.ofW (cc := cX7_makeObject) (maxL := 6) (ret := (some .int)) (by decide) rfl ?_
  intro p e s m args below meth c s₁ B hml hv
  obtain ⟨rfl, hsz, hP, hK, hD0, hE⟩ := hv
  have hx := B.exec
  have hb := B.bytes
  have hr := B.returns
  have hts := atoms_spec (ws := wp_X7_makeObject) B.pre
  have hown : s.vm.findClass RX7 = some m.cls := findClass_of_methodNamed B.named
  have hlocks := B.notSynchronized
  subst hsz
  have hD : sm_D (sm_a α 37 s.heap.size) α 37 := hD0.own
  have hA : ∀ q : Nat, s.heap.size ≤ q → sm_a α 37 s.heap.size q := fun q h => Or.inr h
  generalize hAe : sm_a α 37 s.heap.size = A at hD hA hE ⊢
  have hS : va_S A s.heap s.heap [] := va_S.rf
  have in_X0 : ∀ w ∈ wsX00, w ∈ wp_X7_makeObject := wi_X7_makeObject_X0
  have in_X7 : ∀ w ∈ wsX70, w ∈ wp_X7_makeObject := wi_X7_makeObject_X7
  have k_0 := hts (.fieldLink RX7 27 "SteadyMachine$Runner" "heap" "LSteadyMachine$Heap;") (by decide +kernel)
  have k_1 := hts (.constantLong RX7 153 (4294967296)) (by decide +kernel)
  have k_2 := hts (.fieldLink RX7 21 "SteadyMachine$Runner" "classes" "LSteadyMachine$Classes;") (by decide +kernel)
  have k_3 := hts (.fieldLink RX7 203 "SteadyMachine$Classes" "fieldType" "[I") (by decide +kernel)
  have k_4 := hts (.fieldLink RX7 197 "SteadyMachine$Classes" "fields" "[I") (by decide +kernel)
  have hl := lv_entry ([.ref (α.1 7), .int p1]) (n := 6) (Nat.le_of_ble_eq_true rfl)
  rw [lg_entry_eq]
  generalize (lg_sl ([.ref (α.1 7), .int p1]) ++ List.replicate (6 - (lg_sl ([.ref (α.1 7), .int p1])).length) Slot.unset).toArray = ls at hl ⊢
  have hl : lv_has ls 6 [(0, .ref (α.1 7)), (1, .int p1)] := hl
  have B103 : ∀ (σ : sm_S) (x3 : Int32), mp_X7_makeObject_103 K σ x3 → sm_J p l e (headSpec wp_X7_makeObject { frames := 4, cells := 0, slots := 0, locals := 93 }).room s m ([.ref (α.1 7), .int p1] : List Value).toArray below meth c (MQ below (va_Qi K (sm_B sm_wX D α) A) ([.ref (α.1 7), .int p1] : List Value).toArray s 0 0 A) D A 6 (sm_wX σ α) 103 [(3, .int x3)] [] := by
    intro σ x3 hF H locs ls hP hS hl
    unfold mp_X7_makeObject_103 at hF
    refine lv_iload_n hx hb dX7_makeObject_103 rfl (lv_at hl 0 rfl) ?_
    exact W.iret (v := x3) hx hb hr (fun t ht hW => ⟨⟨x3, σ, rfl, hF, (by unfold sm_B; rw [ht]; exact hP)⟩, hS.F ht⟩) hS.2.2 dX7_makeObject_104
  have B94 : ∀ (L41 : sm_S → Int32 → Int32 → Int32 → Int32 → Prop) (hL41 : ∀ (σ : sm_S) (x1 : Int32) (x2 : Int32) (x3 : Int32) (x4 : Int32), L41 σ x1 x2 x3 x4 → sm_J p l e (headSpec wp_X7_makeObject { frames := 4, cells := 0, slots := 0, locals := 93 }).room s m ([.ref (α.1 7), .int p1] : List Value).toArray below meth c (MQ below (va_Qi K (sm_B sm_wX D α) A) ([.ref (α.1 7), .int p1] : List Value).toArray s 0 0 A) D A 6 (sm_wX σ α) 41 [(0, .ref (α.1 7)), (1, .int x1), (2, .int x2), (3, .int x3), (4, .int x4)] []) (σ : sm_S) (x1 : Int32) (x2 : Int32) (x3 : Int32) (x4 : Int32) (y1 : Int32) (y2 : Int64), mp_X7_makeObject_94 L41 K σ x1 x2 x3 x4 y1 y2 → sm_J p l e (headSpec wp_X7_makeObject { frames := 4, cells := 0, slots := 0, locals := 93 }).room s m ([.ref (α.1 7), .int p1] : List Value).toArray below meth c (MQ below (va_Qi K (sm_B sm_wX D α) A) ([.ref (α.1 7), .int p1] : List Value).toArray s 0 0 A) D A 6 (sm_wX σ α) 94 [(0, .ref (α.1 7)), (1, .int x1), (2, .int x2), (3, .int x3), (4, .int x4)] [.long y2, .int y1, .ref (α.1 1)] := by
    intro L41 hL41 σ x1 x2 x3 x4 y1 y2 hF H locs ls hP hS hl
    unfold mp_X7_makeObject_94 at hF
    refine sm_vv (As := [.int y1, .long y2]) (rest := []) hP hK hD hE hS hA ⟨hx, hb, hml, hown, hts⟩ hl.1 (c_X1_put l D H.size t0 σ α y1 y2 _ hF) (cwV 2 hts wg_X7_makeObject_X1_put_110 rfl rfl rfl (by decide +kernel) ⟨Nat.le_of_ble_eq_true rfl, Nat.le_of_ble_eq_true rfl⟩) (va_recv hK hP (ci := 1) (q0 := 1) rfl (sm_gX1 σ α)) rfl rfl (Nat.le_of_ble_eq_true rfl) dX7_makeObject_94 ⟨Nat.zero_le _, Nat.zero_le _⟩ (fun σ1 H locs hF hP hS => ?_)
    obtain ⟨v2, ev2⟩ : ∃ y : Int32, y = x4 + 1 := ⟨_, rfl⟩
    replace hF := hF v2 ev2
    refine lv_iinc (v := v2) (lv' := [(4, .int v2), (0, .ref (α.1 7)), (1, .int x1), (2, .int x2), (3, .int x3)]) hx hb dX7_makeObject_97 hl (k := 4) rfl (by rw [ev2]; rfl) (by decide) rfl (fun ls hl => ?_)
    refine lv_goto (tgt := 41) hx hb dX7_makeObject_100 (by decide) ?_
    exact hL41 σ1 x1 x2 x3 v2 hF H locs ls hP hS (lv_sub hl [1, 2, 3, 4, 0] rfl)
  have B70 : ∀ (L41 : sm_S → Int32 → Int32 → Int32 → Int32 → Prop) (hL41 : ∀ (σ : sm_S) (x1 : Int32) (x2 : Int32) (x3 : Int32) (x4 : Int32), L41 σ x1 x2 x3 x4 → sm_J p l e (headSpec wp_X7_makeObject { frames := 4, cells := 0, slots := 0, locals := 93 }).room s m ([.ref (α.1 7), .int p1] : List Value).toArray below meth c (MQ below (va_Qi K (sm_B sm_wX D α) A) ([.ref (α.1 7), .int p1] : List Value).toArray s 0 0 A) D A 6 (sm_wX σ α) 41 [(0, .ref (α.1 7)), (1, .int x1), (2, .int x2), (3, .int x3), (4, .int x4)] []) (σ : sm_S) (x1 : Int32) (x2 : Int32) (x3 : Int32) (x4 : Int32) (y0 : Int32), mp_X7_makeObject_70 L41 K σ x1 x2 x3 x4 y0 → sm_J p l e (headSpec wp_X7_makeObject { frames := 4, cells := 0, slots := 0, locals := 93 }).room s m ([.ref (α.1 7), .int p1] : List Value).toArray below meth c (MQ below (va_Qi K (sm_B sm_wX D α) A) ([.ref (α.1 7), .int p1] : List Value).toArray s 0 0 A) D A 6 (sm_wX σ α) 70 [(0, .ref (α.1 7)), (1, .int x1), (2, .int x2), (3, .int x3), (4, .int x4)] [.int y0] := by
    intro L41 hL41 σ x1 x2 x3 x4 y0 hF H locs ls hP hS hl
    unfold mp_X7_makeObject_70 at hF
    refine lv_istore (lv' := [(5, .int y0), (0, .ref (α.1 7)), (1, .int x1), (2, .int x2), (3, .int x3), (4, .int x4)]) hx hb dX7_makeObject_70 hl (by decide) rfl (fun ls hl => ?_)
    refine lv_aload_n hx hb dX7_makeObject_72 rfl (lv_at hl 1 rfl) ?_
    refine va_get (D := D) (ci := 7) (v := .ref (α.1 1)) (C := RX7) (T := TX7) (N := 13) hx hb hts in_X7 hown hK hP 7 (sm_gX7 σ α) rfl 3 (by decide) k_0 (fun _ h9 => h9) rfl dX7_makeObject_73 ?_
    refine lv_iload_n hx hb dX7_makeObject_76 rfl (lv_at hl 4 rfl) ?_
    refine lv_iconst (v := 1) hx hb dX7_makeObject_77 (by decide) ?_
    refine lv_iadd hx hb dX7_makeObject_78 ?_
    refine lv_iload hx hb dX7_makeObject_79 (lv_at hl 5 rfl) ?_
    refine lv_iadd hx hb dX7_makeObject_81 ?_
    refine lv_iload hx hb dX7_makeObject_82 (lv_at hl 0 rfl) ?_
    refine lv_if_eq (tgt := 91) hx hb dX7_makeObject_84 (by decide) (fun h3 => ?_) (fun h3 => ?_)
    · replace hF := hF.1 h3
      refine lv_ldc2 (v := 4294967296) hx hb hown k_1 dX7_makeObject_91 ?_
      exact B94 L41 hL41 σ x1 x2 x3 x4 ((x3 + 1) + x4) 4294967296 hF H locs ls hP hS (lv_sub hl [1, 2, 3, 4, 5] rfl)
    · replace hF := hF.2 h3
      refine lv_lconst (v := 0) hx hb dX7_makeObject_87 (by decide) ?_
      refine lv_goto (tgt := 94) hx hb dX7_makeObject_88 (by decide) ?_
      exact B94 L41 hL41 σ x1 x2 x3 x4 ((x3 + 1) + x4) 0 hF H locs ls hP hS (lv_sub hl [1, 2, 3, 4, 5] rfl)
  have B41 : ∀ (n : Nat) (σ : sm_S) (x1 : Int32) (x2 : Int32) (x3 : Int32) (x4 : Int32), mp_X7_makeObject_41 K n σ x1 x2 x3 x4 → sm_J p l e (headSpec wp_X7_makeObject { frames := 4, cells := 0, slots := 0, locals := 93 }).room s m ([.ref (α.1 7), .int p1] : List Value).toArray below meth c (MQ below (va_Qi K (sm_B sm_wX D α) A) ([.ref (α.1 7), .int p1] : List Value).toArray s 0 0 A) D A 6 (sm_wX σ α) 41 [(0, .ref (α.1 7)), (1, .int x1), (2, .int x2), (3, .int x3), (4, .int x4)] [] := by
    intro n41
    induction n41 with
    | zero =>
      intro σ x1 x2 x3 x4 hF
      exact hF.elim
    | succ n41 ih41 =>
      intro σ x1 x2 x3 x4 hF H locs ls hP hS hl
      unfold mp_X7_makeObject_41 at hF
      refine lv_iload hx hb dX7_makeObject_41 (lv_at hl 4 rfl) ?_
      refine lv_iload_n hx hb dX7_makeObject_43 rfl (lv_at hl 2 rfl) ?_
      refine lv_icmp_ge (tgt := 103) hx hb dX7_makeObject_44 (by decide) (fun h4 => ?_) (fun h4 => ?_)
      · replace hF := hF.1 h4
        exact B103 σ x3 hF H locs ls hP hS (lv_sub hl [3] rfl)
      · replace hF := hF.2 h4
        refine lv_aload_n hx hb dX7_makeObject_47 rfl (lv_at hl 0 rfl) ?_
        refine va_get (D := D) (ci := 7) (v := .ref (α.1 0)) (C := RX7) (T := TX7) (N := 13) hx hb hts in_X7 hown hK hP 7 (sm_gX7 σ α) rfl 1 (by decide) k_2 (fun _ h9 => h9) rfl dX7_makeObject_48 ?_
        refine va_get (D := D) (ci := 0) (v := .ref (α.1 13)) (C := RX0) (T := TX0) (N := 7) hx hb hts in_X0 hown hK hP 0 (sm_gX0 σ α) rfl 3 (by decide) k_3 (fun _ h9 => h9) rfl dX7_makeObject_51 ?_
        refine lv_iload_n hx hb dX7_makeObject_54 rfl (lv_at hl 1 rfl) ?_
        refine lv_bipush (v := 15) hx hb dX7_makeObject_55 (by decide) ?_
        refine lv_imul hx hb dX7_makeObject_57 ?_
        refine lv_iload hx hb dX7_makeObject_58 (lv_at hl 4 rfl) ?_
        refine lv_iadd hx hb dX7_makeObject_60 ?_
        obtain ⟨h5, hF⟩ := hF
        refine va_iald (n := (σ.2.2.1 13)) (f := (σ.2.2.2.1 13)) hx hb hK hP 13 2 (sm_aX13 σ α) (sm_yX13 α) h5 dX7_makeObject_61 ?_
        refine lv_if_ne (tgt := 69) hx hb dX7_makeObject_62 (by decide) (fun h6 => ?_) (fun h6 => ?_)
        · replace hF := hF.1 h6
          refine lv_iconst (v := 0) hx hb dX7_makeObject_69 (by decide) ?_
          exact B70 (mp_X7_makeObject_41 K n41) ih41 σ x1 x2 x3 x4 0 hF H locs ls hP hS (lv_sub hl [0, 1, 2, 3, 4] rfl)
        · replace hF := hF.2 h6
          refine lv_iconst (v := 1) hx hb dX7_makeObject_65 (by decide) ?_
          refine lv_goto (tgt := 70) hx hb dX7_makeObject_66 (by decide) ?_
          exact B70 (mp_X7_makeObject_41 K n41) ih41 σ x1 x2 x3 x4 1 hF H locs ls hP hS (lv_sub hl [0, 1, 2, 3, 4] rfl)
  unfold mp_X7_makeObject at hF
  revert hP hS
  generalize hLo : ([] : List Loc) = locs
  suffices h9 : ∀ (H : Heap) (locs : List Loc), va_P D vwCl (sm_wX σ α) H → va_S A s.heap H locs → W p l e (headSpec wp_X7_makeObject { frames := 4, cells := 0, slots := 0, locals := 93 }).room s m ([.ref (α.1 7), .int p1] : List Value).toArray below meth c H locs 0 0 (MQ below (va_Qi K (sm_B sm_wX D α) A) ([.ref (α.1 7), .int p1] : List Value).toArray s 0 0 A) (F0 m 0 ls []) from fun hP hS => h9 s.heap locs hP hS
  intro H locs hP hS
  refine lv_aload_n hx hb dX7_makeObject_0 rfl (lv_at hl 0 rfl) ?_
  refine va_get (D := D) (ci := 7) (v := .ref (α.1 0)) (C := RX7) (T := TX7) (N := 13) hx hb hts in_X7 hown hK hP 7 (sm_gX7 σ α) rfl 1 (by decide) k_2 (fun _ h9 => h9) rfl dX7_makeObject_1 ?_
  refine va_get (D := D) (ci := 0) (v := .ref (α.1 12)) (C := RX0) (T := TX0) (N := 7) hx hb hts in_X0 hown hK hP 0 (sm_gX0 σ α) rfl 2 (by decide) k_4 (fun _ h9 => h9) rfl dX7_makeObject_4 ?_
  refine lv_iload_n hx hb dX7_makeObject_7 rfl (lv_at hl 1 rfl) ?_
  obtain ⟨h7, hF⟩ := hF
  refine va_iald (n := (σ.2.2.1 12)) (f := (σ.2.2.2.1 12)) hx hb hK hP 12 1 (sm_aX12 σ α) (sm_yX12 α) h7 dX7_makeObject_8 ?_
  refine lv_topi (fun v8 ev8 => ?_)
  replace hF := hF v8 ev8
  refine lv_istore_n (lv' := [(2, .int v8), (0, .ref (α.1 7)), (1, .int p1)]) hx hb dX7_makeObject_9 rfl hl (by decide) rfl (fun ls hl => ?_)
  refine lv_aload_n hx hb dX7_makeObject_10 rfl (lv_at hl 1 rfl) ?_
  refine va_get (D := D) (ci := 7) (v := .ref (α.1 1)) (C := RX7) (T := TX7) (N := 13) hx hb hts in_X7 hown hK hP 7 (sm_gX7 σ α) rfl 3 (by decide) k_0 (fun _ h9 => h9) rfl dX7_makeObject_11 ?_
  refine lv_iconst (v := 1) hx hb dX7_makeObject_14 (by decide) ?_
  refine lv_iload_n hx hb dX7_makeObject_15 rfl (lv_at hl 0 rfl) ?_
  refine lv_iadd hx hb dX7_makeObject_16 ?_
  refine sm_vi (As := [.int (1 + v8)]) (rest := []) hP hK hD hE hS hA ⟨hx, hb, hml, hown, hts⟩ hl.1 (c_X1_make l D H.size t0 σ α (1 + v8) _ hF) (cwV 1 hts wg_X7_makeObject_X1_make_200 rfl rfl rfl (by decide +kernel) ⟨Nat.le_of_ble_eq_true rfl, Nat.le_of_ble_eq_true rfl⟩) (va_recv hK hP (ci := 1) (q0 := 1) rfl (sm_gX1 σ α)) rfl rfl (Nat.le_of_ble_eq_true rfl) dX7_makeObject_17 ⟨Nat.zero_le _, Nat.zero_le _⟩ (fun r10 σ9 H locs hF hP hS => ?_)
  refine lv_istore_n (lv' := [(3, .int r10), (2, .int v8), (0, .ref (α.1 7)), (1, .int p1)]) hx hb dX7_makeObject_20 rfl hl (by decide) rfl (fun ls hl => ?_)
  refine lv_iload_n hx hb dX7_makeObject_21 rfl (lv_at hl 0 rfl) ?_
  refine lv_if_eq (tgt := 103) hx hb dX7_makeObject_22 (by decide) (fun h11 => ?_) (fun h11 => ?_)
  · replace hF := hF.1 h11
    exact B103 σ9 r10 hF H locs ls hP hS (lv_sub hl [0] rfl)
  · replace hF := hF.2 h11
    refine lv_aload_n hx hb dX7_makeObject_25 rfl (lv_at hl 2 rfl) ?_
    refine va_get (D := D) (ci := 7) (v := .ref (α.1 1)) (C := RX7) (T := TX7) (N := 13) hx hb hts in_X7 hown hK hP 7 (sm_gX7 σ9 α) rfl 3 (by decide) k_0 (fun _ h9 => h9) rfl dX7_makeObject_26 ?_
    refine lv_iload_n hx hb dX7_makeObject_29 rfl (lv_at hl 0 rfl) ?_
    refine lv_iconst (v := 2) hx hb dX7_makeObject_30 (by decide) ?_
    refine lv_iload_n hx hb dX7_makeObject_31 rfl (lv_at hl 3 rfl) ?_
    refine sm_sl (As := [.int 2, .int p1]) (rest := [.int r10, .ref (α.1 1)]) hP hK hD hE hS hA ⟨hx, hb, hml, hown, hts⟩ hl.1 (c_X1_cell l D H.size t0 σ9 α 2 p1 _ hF) (va_cwS 2 hts wg_X7_makeObject_X1_cell_139 rfl rfl rfl (by decide +kernel) ⟨Nat.le_of_ble_eq_true rfl, Nat.le_of_ble_eq_true rfl⟩) rfl rfl (Nat.le_of_ble_eq_true rfl) dX7_makeObject_32 ⟨Nat.zero_le _, Nat.zero_le _⟩ (fun r13 σ12 H locs hF hP hS => ?_)
    refine sm_vv (As := [.int r10, .long r13]) (rest := []) hP hK hD hE hS hA ⟨hx, hb, hml, hown, hts⟩ hl.1 (c_X1_put l D H.size t0 σ12 α r10 r13 _ hF) (cwV 2 hts wg_X7_makeObject_X1_put_110 rfl rfl rfl (by decide +kernel) ⟨Nat.le_of_ble_eq_true rfl, Nat.le_of_ble_eq_true rfl⟩) (va_recv hK hP (ci := 1) (q0 := 1) rfl (sm_gX1 σ12 α)) rfl rfl (Nat.le_of_ble_eq_true rfl) dX7_makeObject_35 ⟨Nat.zero_le _, Nat.zero_le _⟩ (fun σ14 H locs hF hP hS => ?_)
    refine lv_iconst (v := 0) hx hb dX7_makeObject_38 (by decide) ?_
    refine lv_istore (lv' := [(4, .int 0), (3, .int r10), (2, .int v8), (0, .ref (α.1 7)), (1, .int p1)]) hx hb dX7_makeObject_39 hl (by decide) rfl (fun ls hl => ?_)
    obtain ⟨n41, hF⟩ := hF
    exact B41 n41 σ14 p1 v8 r10 0 hF H locs ls hP hS (lv_sub hl [3, 4, 2, 1, 0] rfl)
theorem dX7_raise_0 : decode cX7_raise 0 = .ok (.aload_n 0, 1) := by decide +kernel
theorem dX7_raise_1 : decode cX7_raise 1 = .ok (.aload_n 0, 1) := by decide +kernel
theorem dX7_raise_2 : decode cX7_raise 2 = .ok (.getfield 21, 3) := by decide +kernel
theorem dX7_raise_5 : decode cX7_raise 5 = .ok (.getfield 206, 3) := by decide +kernel
theorem dX7_raise_8 : decode cX7_raise 8 = .ok (.iload_n 1, 1) := by decide +kernel
theorem dX7_raise_9 : decode cX7_raise 9 = .ok (.iaload, 1) := by decide +kernel
theorem dX7_raise_10 : decode cX7_raise 10 = .ok (.invokevirtual 176, 3) := by decide +kernel
theorem dX7_raise_13 : decode cX7_raise 13 = .ok (.istore_n 2, 1) := by decide +kernel
theorem dX7_raise_14 : decode cX7_raise 14 = .ok (.aload_n 0, 1) := by decide +kernel
theorem dX7_raise_15 : decode cX7_raise 15 = .ok (.getfield 27, 3) := by decide +kernel
theorem dX7_raise_18 : decode cX7_raise 18 = .ok (.iload_n 2, 1) := by decide +kernel
theorem dX7_raise_19 : decode cX7_raise 19 = .ok (.putfield 63, 3) := by decide +kernel
theorem dX7_raise_22 : decode cX7_raise 22 = .ok (.iload_n 2, 1) := by decide +kernel
theorem dX7_raise_23 : decode cX7_raise 23 = .ok (.ifCond .ne 8, 3) := by decide +kernel
theorem dX7_raise_26 : decode cX7_raise 26 = .ok (.bipush (-3), 2) := by decide +kernel
theorem dX7_raise_28 : decode cX7_raise 28 = .ok (.goto 5, 3) := by decide +kernel
theorem dX7_raise_31 : decode cX7_raise 31 = .ok (.bipush (-2), 2) := by decide +kernel
theorem dX7_raise_33 : decode cX7_raise 33 = .ok (.ireturn, 1) := by decide +kernel
def wp_X7_raise : List Cond := .code yX7_raise cX7_raise 3 (some .int) :: (((([.fieldLink RX7 21 "SteadyMachine$Runner" "classes" "LSteadyMachine$Classes;", .fieldLink RX7 206 "SteadyMachine$Classes" "thrown" "[I", .fieldLink RX7 27 "SteadyMachine$Runner" "heap" "LSteadyMachine$Heap;", .fieldLink RX7 63 "SteadyMachine$Heap" "flies" "I"] ++ (wsV RX7 176 RX7 yX7_makeObject wp_X7_makeObject)) ++ wsX00) ++ wsX10) ++ wsX70)
theorem wq_X7_raise : wp_X7_raise.all goodWord = true := wa_c rfl (wa_a (wa_a (wa_a (wa_a (by decide +kernel) (wa_V wq_X7_makeObject)) uq_X0) uq_X1) uq_X7)
theorem wt_X7_raise : GoodIn lw_tbl wp_X7_raise := wm_c (List.mem_of_getElem? (i := 1088) (by decide +kernel)) rfl (wm_a (wm_a (wm_a (wm_a (goodIn_r _ [513, 196, 515, 465] (by decide +kernel) (by decide +kernel)) (wm_a (goodIn_r _ [1015, 1017, 53, 145] (by decide +kernel) (by decide +kernel)) wt_X7_makeObject)) ut_X0) ut_X1) ut_X7)
theorem wg_X7_raise_X7_makeObject_176 : GoodIn wp_X7_raise (wsV RX7 176 RX7 yX7_makeObject wp_X7_makeObject) := goodIn_sub (fun w h => List.mem_cons_of_mem _ (List.mem_append_left _ (List.mem_append_left _ (List.mem_append_left _ (List.mem_append_right _ h))))) (wa_V wq_X7_makeObject)
theorem wi_X7_raise_X0 : ∀ w ∈ wsX00, w ∈ wp_X7_raise := fun w h => List.mem_cons_of_mem _ (List.mem_append_left _ (List.mem_append_left _ (List.mem_append_right _ h)))
theorem wi_X7_raise_X1 : ∀ w ∈ wsX10, w ∈ wp_X7_raise := fun w h => List.mem_cons_of_mem _ (List.mem_append_left _ (List.mem_append_right _ h))
theorem wi_X7_raise_X7 : ∀ w ∈ wsX70, w ∈ wp_X7_raise := fun w h => List.mem_cons_of_mem _ (List.mem_append_right _ h)
set_option maxHeartbeats 4000000 in
set_option maxRecDepth 100000 in
theorem c_X7_raise (l : Launch) (D : va_G) (sz t0 : Nat) (σ : sm_S) (α : sm_A) (p1 : Int32) (K : Int32 → sm_S → Prop) (hF : mp_X7_raise σ p1 K) : Met l yX7_raise wp_X7_raise { frames := 5, cells := 0, slots := 0, locals := 118 } (sm_P sm_wX sm_tX 37 D sz t0 σ α [.ref (α.1 7), .int p1]) (va_Qi K (sm_B sm_wX D α) (sm_a α 37 sz)) 0 0 (sm_a α 37 sz) := by
  refine Met.ofW (cc := cX7_raise) (maxL := 3) (ret := (some .int)) (by decide) rfl ?_
  intro p e s m args below meth c s₁ B hml hv
  obtain ⟨rfl, hsz, hP, hK, hD0, hE⟩ := hv
  have hx := B.exec
  have hb := B.bytes
  have hr := B.returns
  have hts := atoms_spec (ws := wp_X7_raise) B.pre
  have hown : s.vm.findClass RX7 = some m.cls := findClass_of_methodNamed B.named
  have hlocks := B.notSynchronized
  subst hsz
  have hD : sm_D (sm_a α 37 s.heap.size) α 37 := hD0.own
  have hA : ∀ q : Nat, s.heap.size ≤ q → sm_a α 37 s.heap.size q := fun q h => Or.inr h
  generalize hAe : sm_a α 37 s.heap.size = A at hD hA hE ⊢
  have hS : va_S A s.heap s.heap [] := va_S.rf
  have in_X0 : ∀ w ∈ wsX00, w ∈ wp_X7_raise := wi_X7_raise_X0
  have in_X1 : ∀ w ∈ wsX10, w ∈ wp_X7_raise := wi_X7_raise_X1
  have in_X7 : ∀ w ∈ wsX70, w ∈ wp_X7_raise := wi_X7_raise_X7
  have k_0 := hts (.fieldLink RX7 21 "SteadyMachine$Runner" "classes" "LSteadyMachine$Classes;") (by decide +kernel)
  have k_1 := hts (.fieldLink RX7 206 "SteadyMachine$Classes" "thrown" "[I") (by decide +kernel)
  have k_2 := hts (.fieldLink RX7 27 "SteadyMachine$Runner" "heap" "LSteadyMachine$Heap;") (by decide +kernel)
  have k_3 := hts (.fieldLink RX7 63 "SteadyMachine$Heap" "flies" "I") (by decide +kernel)
  have hl := lv_entry ([.ref (α.1 7), .int p1]) (n := 3) (Nat.le_of_ble_eq_true rfl)
  rw [lg_entry_eq]
  generalize (lg_sl ([.ref (α.1 7), .int p1]) ++ List.replicate (3 - (lg_sl ([.ref (α.1 7), .int p1])).length) Slot.unset).toArray = ls at hl ⊢
  have hl : lv_has ls 3 [(0, .ref (α.1 7)), (1, .int p1)] := hl
  have B33 : ∀ (σ : sm_S) (y0 : Int32), mp_X7_raise_33 K σ y0 → sm_J p l e (headSpec wp_X7_raise { frames := 5, cells := 0, slots := 0, locals := 118 }).room s m ([.ref (α.1 7), .int p1] : List Value).toArray below meth c (MQ below (va_Qi K (sm_B sm_wX D α) A) ([.ref (α.1 7), .int p1] : List Value).toArray s 0 0 A) D A 3 (sm_wX σ α) 33 [] [.int y0] := by
    intro σ y0 hF H locs ls hP hS hl
    unfold mp_X7_raise_33 at hF
    exact W.iret (v := y0) hx hb hr (fun t ht hW => ⟨⟨y0, σ, rfl, hF, (by unfold sm_B; rw [ht]; exact hP)⟩, hS.F ht⟩) hS.2.2 dX7_raise_33
  unfold mp_X7_raise at hF
  revert hP hS
  generalize hLo : ([] : List Loc) = locs
  suffices h9 : ∀ (H : Heap) (locs : List Loc), va_P D vwCl (sm_wX σ α) H → va_S A s.heap H locs → W p l e (headSpec wp_X7_raise { frames := 5, cells := 0, slots := 0, locals := 118 }).room s m ([.ref (α.1 7), .int p1] : List Value).toArray below meth c H locs 0 0 (MQ below (va_Qi K (sm_B sm_wX D α) A) ([.ref (α.1 7), .int p1] : List Value).toArray s 0 0 A) (F0 m 0 ls []) from fun hP hS => h9 s.heap locs hP hS
  intro H locs hP hS
  refine lv_aload_n hx hb dX7_raise_0 rfl (lv_at hl 0 rfl) ?_
  refine lv_aload_n hx hb dX7_raise_1 rfl (lv_at hl 0 rfl) ?_
  refine va_get (D := D) (ci := 7) (v := .ref (α.1 0)) (C := RX7) (T := TX7) (N := 13) hx hb hts in_X7 hown hK hP 7 (sm_gX7 σ α) rfl 1 (by decide) k_0 (fun _ h9 => h9) rfl dX7_raise_2 ?_
  refine va_get (D := D) (ci := 0) (v := .ref (α.1 16)) (C := RX0) (T := TX0) (N := 7) hx hb hts in_X0 hown hK hP 0 (sm_gX0 σ α) rfl 6 (by decide) k_1 (fun _ h9 => h9) rfl dX7_raise_5 ?_
  refine lv_iload_n hx hb dX7_raise_8 rfl (lv_at hl 1 rfl) ?_
  obtain ⟨h1, hF⟩ := hF
  refine va_iald (n := (σ.2.2.1 16)) (f := (σ.2.2.2.1 16)) hx hb hK hP 16 5 (sm_aX16 σ α) (sm_yX16 α) h1 dX7_raise_9 ?_
  refine sm_vi (As := [.int ((σ.2.2.2.1 16) p1.toNatClampNeg)]) (rest := []) hP hK hD hE hS hA ⟨hx, hb, hml, hown, hts⟩ hl.1 (c_X7_makeObject l D H.size t0 σ α ((σ.2.2.2.1 16) p1.toNatClampNeg) _ hF) (cwV 1 hts wg_X7_raise_X7_makeObject_176 rfl rfl rfl (by decide +kernel) ⟨Nat.le_of_ble_eq_true rfl, Nat.le_of_ble_eq_true rfl⟩) (va_recv hK hP (ci := 7) (q0 := 7) rfl (sm_gX7 σ α)) rfl rfl (Nat.le_of_ble_eq_true rfl) dX7_raise_10 ⟨Nat.zero_le _, Nat.zero_le _⟩ (fun r3 σ2 H locs hF hP hS => ?_)
  refine lv_istore_n (lv' := [(2, .int r3), (0, .ref (α.1 7)), (1, .int p1)]) hx hb dX7_raise_13 rfl hl (by decide) rfl (fun ls hl => ?_)
  refine lv_aload_n hx hb dX7_raise_14 rfl (lv_at hl 1 rfl) ?_
  refine va_get (D := D) (ci := 7) (v := .ref (α.1 1)) (C := RX7) (T := TX7) (N := 13) hx hb hts in_X7 hown hK hP 7 (sm_gX7 σ2 α) rfl 3 (by decide) k_2 (fun _ h9 => h9) rfl dX7_raise_15 ?_
  refine lv_iload_n hx hb dX7_raise_18 rfl (lv_at hl 0 rfl) ?_
  refine va_put (D := D) (ci := 1) (v := .int r3) (ty := .int) (C := RX1) (T := TX1) (N := 16) hx hb hts in_X1 tyX1 tyX1_ok nmX1 hown hK hP (hD.to (sm_wX_m _ _)) hS 1 (sm_gX1 σ2 α) rfl 13 (by decide) k_3 (fun _ h9 => h9) rfl (by decide +kernel) rfl rfl (Nat.le_of_ble_eq_true rfl) dX7_raise_19 (fun H locs hP _ hS => ?_)
  rw [sm_iX11] at hP
  obtain ⟨σ4, eσ4⟩ : ∃ x : sm_S, x = sm_i σ2 11 r3 := ⟨_, rfl⟩
  replace hF := hF σ4 eσ4
  rw [← eσ4] at hP
  refine lv_iload_n hx hb dX7_raise_22 rfl (lv_at hl 0 rfl) ?_
  refine lv_if_ne (tgt := 31) hx hb dX7_raise_23 (by decide) (fun h5 => ?_) (fun h5 => ?_)
  · replace hF := hF.1 h5
    refine lv_bipush (v := -2) hx hb dX7_raise_31 (by decide) ?_
    exact B33 σ4 (-2) hF H locs ls hP hS (lv_sub hl [] rfl)
  · replace hF := hF.2 h5
    refine lv_bipush (v := -3) hx hb dX7_raise_26 (by decide) ?_
    refine lv_goto (tgt := 33) hx hb dX7_raise_28 (by decide) ?_
    exact B33 σ4 (-3) hF H locs ls hP hS (lv_sub hl [] rfl)
theorem dX7_combine_0 : decode cX7_combine 0 = .ok (.iload_n 0, 1) := by decide +kernel
theorem dX7_combine_1 : decode cX7_combine 1 = .ok (.tableswitch 87 7 16 #[55, 59, 63, 87, 87, 67, 71, 75, 79, 83], 55) := by decide +kernel
theorem dX7_combine_56 : decode cX7_combine 56 = .ok (.iload_n 1, 1) := by decide +kernel
theorem dX7_combine_57 : decode cX7_combine 57 = .ok (.iload_n 2, 1) := by decide +kernel
theorem dX7_combine_58 : decode cX7_combine 58 = .ok (.iadd, 1) := by decide +kernel
theorem dX7_combine_59 : decode cX7_combine 59 = .ok (.ireturn, 1) := by decide +kernel
theorem dX7_combine_60 : decode cX7_combine 60 = .ok (.iload_n 1, 1) := by decide +kernel
theorem dX7_combine_61 : decode cX7_combine 61 = .ok (.iload_n 2, 1) := by decide +kernel
theorem dX7_combine_62 : decode cX7_combine 62 = .ok (.isub, 1) := by decide +kernel
theorem dX7_combine_63 : decode cX7_combine 63 = .ok (.ireturn, 1) := by decide +kernel
theorem dX7_combine_64 : decode cX7_combine 64 = .ok (.iload_n 1, 1) := by decide +kernel
theorem dX7_combine_65 : decode cX7_combine 65 = .ok (.iload_n 2, 1) := by decide +kernel
theorem dX7_combine_66 : decode cX7_combine 66 = .ok (.imul, 1) := by decide +kernel
theorem dX7_combine_67 : decode cX7_combine 67 = .ok (.ireturn, 1) := by decide +kernel
theorem dX7_combine_68 : decode cX7_combine 68 = .ok (.iload_n 1, 1) := by decide +kernel
theorem dX7_combine_69 : decode cX7_combine 69 = .ok (.iload_n 2, 1) := by decide +kernel
theorem dX7_combine_70 : decode cX7_combine 70 = .ok (.iand, 1) := by decide +kernel
theorem dX7_combine_71 : decode cX7_combine 71 = .ok (.ireturn, 1) := by decide +kernel
theorem dX7_combine_72 : decode cX7_combine 72 = .ok (.iload_n 1, 1) := by decide +kernel
theorem dX7_combine_73 : decode cX7_combine 73 = .ok (.iload_n 2, 1) := by decide +kernel
theorem dX7_combine_74 : decode cX7_combine 74 = .ok (.ior, 1) := by decide +kernel
theorem dX7_combine_75 : decode cX7_combine 75 = .ok (.ireturn, 1) := by decide +kernel
theorem dX7_combine_76 : decode cX7_combine 76 = .ok (.iload_n 1, 1) := by decide +kernel
theorem dX7_combine_77 : decode cX7_combine 77 = .ok (.iload_n 2, 1) := by decide +kernel
theorem dX7_combine_78 : decode cX7_combine 78 = .ok (.ixor, 1) := by decide +kernel
theorem dX7_combine_79 : decode cX7_combine 79 = .ok (.ireturn, 1) := by decide +kernel
theorem dX7_combine_80 : decode cX7_combine 80 = .ok (.iload_n 1, 1) := by decide +kernel
theorem dX7_combine_81 : decode cX7_combine 81 = .ok (.iload_n 2, 1) := by decide +kernel
theorem dX7_combine_82 : decode cX7_combine 82 = .ok (.ishl, 1) := by decide +kernel
theorem dX7_combine_83 : decode cX7_combine 83 = .ok (.ireturn, 1) := by decide +kernel
theorem dX7_combine_84 : decode cX7_combine 84 = .ok (.iload_n 1, 1) := by decide +kernel
theorem dX7_combine_85 : decode cX7_combine 85 = .ok (.iload_n 2, 1) := by decide +kernel
theorem dX7_combine_86 : decode cX7_combine 86 = .ok (.ishr, 1) := by decide +kernel
theorem dX7_combine_87 : decode cX7_combine 87 = .ok (.ireturn, 1) := by decide +kernel
theorem dX7_combine_88 : decode cX7_combine 88 = .ok (.iload_n 1, 1) := by decide +kernel
theorem dX7_combine_89 : decode cX7_combine 89 = .ok (.iload_n 2, 1) := by decide +kernel
theorem dX7_combine_90 : decode cX7_combine 90 = .ok (.iushr, 1) := by decide +kernel
theorem dX7_combine_91 : decode cX7_combine 91 = .ok (.ireturn, 1) := by decide +kernel
def wp_X7_combine : List Cond := .code yX7_combine cX7_combine 3 (some .int) :: []
theorem wq_X7_combine : wp_X7_combine.all goodWord = true := wa_c rfl (by decide +kernel)
theorem wt_X7_combine : GoodIn lw_tbl wp_X7_combine := wm_c (List.mem_of_getElem? (i := 1002) (by decide +kernel)) rfl (goodIn_r _ [] (by decide +kernel) (by decide +kernel))
set_option maxHeartbeats 4000000 in
set_option maxRecDepth 100000 in
theorem c_X7_combine (l : Launch) (D : va_G) (sz t0 : Nat) (σ : sm_S) (α : sm_A) (p1 : Int32) (p2 : Int32) (p3 : Int32) (K : Int32 → sm_S → Prop) (hF : mp_X7_combine σ p1 p2 p3 K) : Met l yX7_combine wp_X7_combine { frames := 0, cells := 0, slots := 0, locals := 0 } (sm_P sm_wX sm_tX 37 D sz t0 σ α [.int p1, .int p2, .int p3]) (va_Qi K (sm_B sm_wX D α) (sm_a α 37 sz)) 0 0 (sm_a α 37 sz) := by
  refine Met.ofW (cc := cX7_combine) (maxL := 3) (ret := (some .int)) (by decide) rfl ?_
  intro p e s m args below meth c s₁ B hml hv
  obtain ⟨rfl, hsz, hP, hK, hD0, hE⟩ := hv
  have hx := B.exec
  have hb := B.bytes
  have hr := B.returns
  have hts := atoms_spec (ws := wp_X7_combine) B.pre
  have hown : s.vm.findClass RX7 = some m.cls := findClass_of_methodNamed B.named
  have hlocks := B.notSynchronized
  subst hsz
  have hD : sm_D (sm_a α 37 s.heap.size) α 37 := hD0.own
  have hA : ∀ q : Nat, s.heap.size ≤ q → sm_a α 37 s.heap.size q := fun q h => Or.inr h
  generalize hAe : sm_a α 37 s.heap.size = A at hD hA hE ⊢
  have hS : va_S A s.heap s.heap [] := va_S.rf
  have hl := lv_entry ([.int p1, .int p2, .int p3]) (n := 3) (Nat.le_of_ble_eq_true rfl)
  rw [lg_entry_eq]
  generalize (lg_sl ([.int p1, .int p2, .int p3]) ++ List.replicate (3 - (lg_sl ([.int p1, .int p2, .int p3])).length) Slot.unset).toArray = ls at hl ⊢
  have hl : lv_has ls 3 [(0, .int p1), (1, .int p2), (2, .int p3)] := hl
  unfold mp_X7_combine at hF
  revert hP hS
  generalize hLo : ([] : List Loc) = locs
  suffices h9 : ∀ (H : Heap) (locs : List Loc), va_P D vwCl (sm_wX σ α) H → va_S A s.heap H locs → W p l e (headSpec wp_X7_combine { frames := 0, cells := 0, slots := 0, locals := 0 }).room s m ([.int p1, .int p2, .int p3] : List Value).toArray below meth c H locs 0 0 (MQ below (va_Qi K (sm_B sm_wX D α) A) ([.int p1, .int p2, .int p3] : List Value).toArray s 0 0 A) (F0 m 0 ls []) from fun hP hS => h9 s.heap locs hP hS
  intro H locs hP hS
  refine lv_iload_n hx hb dX7_combine_0 rfl (lv_at hl 0 rfl) ?_
  by_cases h1 : p1 = 7
  · refine lv_tableIn (tgt := 56) hx hb dX7_combine_1 (by rw [h1]; decide) (by rw [h1]; decide) (by rw [h1]; rfl) (by decide) ?_
    replace hF := hF.1 h1
    refine lv_iload_n hx hb dX7_combine_56 rfl (lv_at hl 1 rfl) ?_
    refine lv_iload_n hx hb dX7_combine_57 rfl (lv_at hl 2 rfl) ?_
    refine lv_iadd hx hb dX7_combine_58 ?_
    exact W.iret (v := (p2 + p3)) hx hb hr (fun t ht hW => ⟨⟨(p2 + p3), σ, rfl, hF, (by unfold sm_B; rw [ht]; exact hP)⟩, hS.F ht⟩) hS.2.2 dX7_combine_59
  by_cases h2 : p1 = 8
  · refine lv_tableIn (tgt := 60) hx hb dX7_combine_1 (by rw [h2]; decide) (by rw [h2]; decide) (by rw [h2]; rfl) (by decide) ?_
    replace hF := hF.2.1 h2
    refine lv_iload_n hx hb dX7_combine_60 rfl (lv_at hl 1 rfl) ?_
    refine lv_iload_n hx hb dX7_combine_61 rfl (lv_at hl 2 rfl) ?_
    refine lv_isub hx hb dX7_combine_62 ?_
    exact W.iret (v := (p2 - p3)) hx hb hr (fun t ht hW => ⟨⟨(p2 - p3), σ, rfl, hF, (by unfold sm_B; rw [ht]; exact hP)⟩, hS.F ht⟩) hS.2.2 dX7_combine_63
  by_cases h3 : p1 = 9
  · refine lv_tableIn (tgt := 64) hx hb dX7_combine_1 (by rw [h3]; decide) (by rw [h3]; decide) (by rw [h3]; rfl) (by decide) ?_
    replace hF := hF.2.2.1 h3
    refine lv_iload_n hx hb dX7_combine_64 rfl (lv_at hl 1 rfl) ?_
    refine lv_iload_n hx hb dX7_combine_65 rfl (lv_at hl 2 rfl) ?_
    refine lv_imul hx hb dX7_combine_66 ?_
    exact W.iret (v := (p2 * p3)) hx hb hr (fun t ht hW => ⟨⟨(p2 * p3), σ, rfl, hF, (by unfold sm_B; rw [ht]; exact hP)⟩, hS.F ht⟩) hS.2.2 dX7_combine_67
  by_cases h4 : p1 = 10
  · refine lv_tableIn (tgt := 88) hx hb dX7_combine_1 (by rw [h4]; decide) (by rw [h4]; decide) (by rw [h4]; rfl) (by decide) ?_
    replace hF := hF.2.2.2.1 h4
    refine lv_iload_n hx hb dX7_combine_88 rfl (lv_at hl 1 rfl) ?_
    refine lv_iload_n hx hb dX7_combine_89 rfl (lv_at hl 2 rfl) ?_
    refine lv_iushr hx hb dX7_combine_90 rfl ?_
    exact W.iret (v := (p2.toUInt32 >>> (p3.toUInt32 &&& Int32.toUInt32 31)).toInt32) hx hb hr (fun t ht hW => ⟨⟨(p2.toUInt32 >>> (p3.toUInt32 &&& Int32.toUInt32 31)).toInt32, σ, rfl, hF, (by unfold sm_B; rw [ht]; exact hP)⟩, hS.F ht⟩) hS.2.2 dX7_combine_91
  by_cases h5 : p1 = 11
  · refine lv_tableIn (tgt := 88) hx hb dX7_combine_1 (by rw [h5]; decide) (by rw [h5]; decide) (by rw [h5]; rfl) (by decide) ?_
    replace hF := hF.2.2.2.2.1 h5
    refine lv_iload_n hx hb dX7_combine_88 rfl (lv_at hl 1 rfl) ?_
    refine lv_iload_n hx hb dX7_combine_89 rfl (lv_at hl 2 rfl) ?_
    refine lv_iushr hx hb dX7_combine_90 rfl ?_
    exact W.iret (v := (p2.toUInt32 >>> (p3.toUInt32 &&& Int32.toUInt32 31)).toInt32) hx hb hr (fun t ht hW => ⟨⟨(p2.toUInt32 >>> (p3.toUInt32 &&& Int32.toUInt32 31)).toInt32, σ, rfl, hF, (by unfold sm_B; rw [ht]; exact hP)⟩, hS.F ht⟩) hS.2.2 dX7_combine_91
  by_cases h6 : p1 = 12
  · refine lv_tableIn (tgt := 68) hx hb dX7_combine_1 (by rw [h6]; decide) (by rw [h6]; decide) (by rw [h6]; rfl) (by decide) ?_
    replace hF := hF.2.2.2.2.2.1 h6
    refine lv_iload_n hx hb dX7_combine_68 rfl (lv_at hl 1 rfl) ?_
    refine lv_iload_n hx hb dX7_combine_69 rfl (lv_at hl 2 rfl) ?_
    refine lv_iand hx hb dX7_combine_70 ?_
    exact W.iret (v := (p2 &&& p3)) hx hb hr (fun t ht hW => ⟨⟨(p2 &&& p3), σ, rfl, hF, (by unfold sm_B; rw [ht]; exact hP)⟩, hS.F ht⟩) hS.2.2 dX7_combine_71
  by_cases h7 : p1 = 13
  · refine lv_tableIn (tgt := 72) hx hb dX7_combine_1 (by rw [h7]; decide) (by rw [h7]; decide) (by rw [h7]; rfl) (by decide) ?_
    replace hF := hF.2.2.2.2.2.2.1 h7
    refine lv_iload_n hx hb dX7_combine_72 rfl (lv_at hl 1 rfl) ?_
    refine lv_iload_n hx hb dX7_combine_73 rfl (lv_at hl 2 rfl) ?_
    refine lv_ior hx hb dX7_combine_74 ?_
    exact W.iret (v := (p2 ||| p3)) hx hb hr (fun t ht hW => ⟨⟨(p2 ||| p3), σ, rfl, hF, (by unfold sm_B; rw [ht]; exact hP)⟩, hS.F ht⟩) hS.2.2 dX7_combine_75
  by_cases h8 : p1 = 14
  · refine lv_tableIn (tgt := 76) hx hb dX7_combine_1 (by rw [h8]; decide) (by rw [h8]; decide) (by rw [h8]; rfl) (by decide) ?_
    replace hF := hF.2.2.2.2.2.2.2.1 h8
    refine lv_iload_n hx hb dX7_combine_76 rfl (lv_at hl 1 rfl) ?_
    refine lv_iload_n hx hb dX7_combine_77 rfl (lv_at hl 2 rfl) ?_
    refine lv_ixor hx hb dX7_combine_78 ?_
    exact W.iret (v := (p2 ^^^ p3)) hx hb hr (fun t ht hW => ⟨⟨(p2 ^^^ p3), σ, rfl, hF, (by unfold sm_B; rw [ht]; exact hP)⟩, hS.F ht⟩) hS.2.2 dX7_combine_79
  by_cases h9 : p1 = 15
  · refine lv_tableIn (tgt := 80) hx hb dX7_combine_1 (by rw [h9]; decide) (by rw [h9]; decide) (by rw [h9]; rfl) (by decide) ?_
    replace hF := hF.2.2.2.2.2.2.2.2.1 h9
    refine lv_iload_n hx hb dX7_combine_80 rfl (lv_at hl 1 rfl) ?_
    refine lv_iload_n hx hb dX7_combine_81 rfl (lv_at hl 2 rfl) ?_
    refine lv_ishl hx hb dX7_combine_82 ?_
    exact W.iret (v := (p2 <<< (p3 &&& 31))) hx hb hr (fun t ht hW => ⟨⟨(p2 <<< (p3 &&& 31)), σ, rfl, hF, (by unfold sm_B; rw [ht]; exact hP)⟩, hS.F ht⟩) hS.2.2 dX7_combine_83
  by_cases h10 : p1 = 16
  · refine lv_tableIn (tgt := 84) hx hb dX7_combine_1 (by rw [h10]; decide) (by rw [h10]; decide) (by rw [h10]; rfl) (by decide) ?_
    replace hF := hF.2.2.2.2.2.2.2.2.2.1 h10
    refine lv_iload_n hx hb dX7_combine_84 rfl (lv_at hl 1 rfl) ?_
    refine lv_iload_n hx hb dX7_combine_85 rfl (lv_at hl 2 rfl) ?_
    refine lv_ishr hx hb dX7_combine_86 ?_
    exact W.iret (v := (p2 >>> (p3 &&& 31))) hx hb hr (fun t ht hW => ⟨⟨(p2 >>> (p3 &&& 31)), σ, rfl, hF, (by unfold sm_B; rw [ht]; exact hP)⟩, hS.F ht⟩) hS.2.2 dX7_combine_87
  refine lv_tableOut (tgt := 88) hx hb dX7_combine_1 (by have q0 := lv_neT h1 (show Int32.toInt 7 = 7 by decide); have q1 := lv_neT h2 (show Int32.toInt 8 = 8 by decide); have q2 := lv_neT h3 (show Int32.toInt 9 = 9 by decide); have q3 := lv_neT h4 (show Int32.toInt 10 = 10 by decide); have q4 := lv_neT h5 (show Int32.toInt 11 = 11 by decide); have q5 := lv_neT h6 (show Int32.toInt 12 = 12 by decide); have q6 := lv_neT h7 (show Int32.toInt 13 = 13 by decide); have q7 := lv_neT h8 (show Int32.toInt 14 = 14 by decide); have q8 := lv_neT h9 (show Int32.toInt 15 = 15 by decide); have q9 := lv_neT h10 (show Int32.toInt 16 = 16 by decide); omega) (by decide) ?_
  replace hF := hF.2.2.2.2.2.2.2.2.2.2 h1 h2 h3 h4 h5 h6 h7 h8 h9 h10
  refine lv_iload_n hx hb dX7_combine_88 rfl (lv_at hl 1 rfl) ?_
  refine lv_iload_n hx hb dX7_combine_89 rfl (lv_at hl 2 rfl) ?_
  refine lv_iushr hx hb dX7_combine_90 rfl ?_
  exact W.iret (v := (p2.toUInt32 >>> (p3.toUInt32 &&& Int32.toUInt32 31)).toInt32) hx hb hr (fun t ht hW => ⟨⟨(p2.toUInt32 >>> (p3.toUInt32 &&& Int32.toUInt32 31)).toInt32, σ, rfl, hF, (by unfold sm_B; rw [ht]; exact hP)⟩, hS.F ht⟩) hS.2.2 dX7_combine_91
theorem dX7_reckon_0 : decode cX7_reckon 0 = .ok (.aload_n 0, 1) := by decide +kernel
theorem dX7_reckon_1 : decode cX7_reckon 1 = .ok (.iconst 0, 1) := by decide +kernel
theorem dX7_reckon_2 : decode cX7_reckon 2 = .ok (.invokevirtual 159, 3) := by decide +kernel
theorem dX7_reckon_5 : decode cX7_reckon 5 = .ok (.l2i, 1) := by decide +kernel
theorem dX7_reckon_6 : decode cX7_reckon 6 = .ok (.istore_n 2, 1) := by decide +kernel
theorem dX7_reckon_7 : decode cX7_reckon 7 = .ok (.iload_n 1, 1) := by decide +kernel
theorem dX7_reckon_8 : decode cX7_reckon 8 = .ok (.bipush 18, 2) := by decide +kernel
theorem dX7_reckon_10 : decode cX7_reckon 10 = .ok (.if_icmp .ne 20, 3) := by decide +kernel
theorem dX7_reckon_13 : decode cX7_reckon 13 = .ok (.aload_n 0, 1) := by decide +kernel
theorem dX7_reckon_14 : decode cX7_reckon 14 = .ok (.dup, 1) := by decide +kernel
theorem dX7_reckon_15 : decode cX7_reckon 15 = .ok (.getfield 46, 3) := by decide +kernel
theorem dX7_reckon_18 : decode cX7_reckon 18 = .ok (.iconst 1, 1) := by decide +kernel
theorem dX7_reckon_19 : decode cX7_reckon 19 = .ok (.isub, 1) := by decide +kernel
theorem dX7_reckon_20 : decode cX7_reckon 20 = .ok (.putfield 46, 3) := by decide +kernel
theorem dX7_reckon_23 : decode cX7_reckon 23 = .ok (.aload_n 0, 1) := by decide +kernel
theorem dX7_reckon_24 : decode cX7_reckon 24 = .ok (.iload_n 2, 1) := by decide +kernel
theorem dX7_reckon_25 : decode cX7_reckon 25 = .ok (.ineg, 1) := by decide +kernel
theorem dX7_reckon_26 : decode cX7_reckon 26 = .ok (.invokevirtual 150, 3) := by decide +kernel
theorem dX7_reckon_29 : decode cX7_reckon 29 = .ok (.ireturn, 1) := by decide +kernel
theorem dX7_reckon_30 : decode cX7_reckon 30 = .ok (.iload_n 1, 1) := by decide +kernel
theorem dX7_reckon_31 : decode cX7_reckon 31 = .ok (.bipush 10, 2) := by decide +kernel
theorem dX7_reckon_33 : decode cX7_reckon 33 = .ok (.if_icmp .eq 9, 3) := by decide +kernel
theorem dX7_reckon_36 : decode cX7_reckon 36 = .ok (.iload_n 1, 1) := by decide +kernel
theorem dX7_reckon_37 : decode cX7_reckon 37 = .ok (.bipush 11, 2) := by decide +kernel
theorem dX7_reckon_39 : decode cX7_reckon 39 = .ok (.if_icmp .ne 9, 3) := by decide +kernel
theorem dX7_reckon_42 : decode cX7_reckon 42 = .ok (.iload_n 2, 1) := by decide +kernel
theorem dX7_reckon_43 : decode cX7_reckon 43 = .ok (.ifCond .ne 5, 3) := by decide +kernel
theorem dX7_reckon_46 : decode cX7_reckon 46 = .ok (.iconst 2, 1) := by decide +kernel
theorem dX7_reckon_47 : decode cX7_reckon 47 = .ok (.ireturn, 1) := by decide +kernel
theorem dX7_reckon_48 : decode cX7_reckon 48 = .ok (.aload_n 0, 1) := by decide +kernel
theorem dX7_reckon_49 : decode cX7_reckon 49 = .ok (.iconst 1, 1) := by decide +kernel
theorem dX7_reckon_50 : decode cX7_reckon 50 = .ok (.invokevirtual 159, 3) := by decide +kernel
theorem dX7_reckon_53 : decode cX7_reckon 53 = .ok (.l2i, 1) := by decide +kernel
theorem dX7_reckon_54 : decode cX7_reckon 54 = .ok (.istore_n 3, 1) := by decide +kernel
theorem dX7_reckon_55 : decode cX7_reckon 55 = .ok (.aload_n 0, 1) := by decide +kernel
theorem dX7_reckon_56 : decode cX7_reckon 56 = .ok (.dup, 1) := by decide +kernel
theorem dX7_reckon_57 : decode cX7_reckon 57 = .ok (.getfield 46, 3) := by decide +kernel
theorem dX7_reckon_60 : decode cX7_reckon 60 = .ok (.iconst 2, 1) := by decide +kernel
theorem dX7_reckon_61 : decode cX7_reckon 61 = .ok (.isub, 1) := by decide +kernel
theorem dX7_reckon_62 : decode cX7_reckon 62 = .ok (.putfield 46, 3) := by decide +kernel
theorem dX7_reckon_65 : decode cX7_reckon 65 = .ok (.aload_n 0, 1) := by decide +kernel
theorem dX7_reckon_66 : decode cX7_reckon 66 = .ok (.iload_n 1, 1) := by decide +kernel
theorem dX7_reckon_67 : decode cX7_reckon 67 = .ok (.bipush 10, 2) := by decide +kernel
theorem dX7_reckon_69 : decode cX7_reckon 69 = .ok (.if_icmp .ne 9, 3) := by decide +kernel
theorem dX7_reckon_72 : decode cX7_reckon 72 = .ok (.iload_n 3, 1) := by decide +kernel
theorem dX7_reckon_73 : decode cX7_reckon 73 = .ok (.iload_n 2, 1) := by decide +kernel
theorem dX7_reckon_74 : decode cX7_reckon 74 = .ok (.idiv, 1) := by decide +kernel
theorem dX7_reckon_75 : decode cX7_reckon 75 = .ok (.goto 21, 3) := by decide +kernel
theorem dX7_reckon_78 : decode cX7_reckon 78 = .ok (.iload_n 1, 1) := by decide +kernel
theorem dX7_reckon_79 : decode cX7_reckon 79 = .ok (.bipush 11, 2) := by decide +kernel
theorem dX7_reckon_81 : decode cX7_reckon 81 = .ok (.if_icmp .ne 9, 3) := by decide +kernel
theorem dX7_reckon_84 : decode cX7_reckon 84 = .ok (.iload_n 3, 1) := by decide +kernel
theorem dX7_reckon_85 : decode cX7_reckon 85 = .ok (.iload_n 2, 1) := by decide +kernel
theorem dX7_reckon_86 : decode cX7_reckon 86 = .ok (.irem, 1) := by decide +kernel
theorem dX7_reckon_87 : decode cX7_reckon 87 = .ok (.goto 9, 3) := by decide +kernel
theorem dX7_reckon_90 : decode cX7_reckon 90 = .ok (.iload_n 1, 1) := by decide +kernel
theorem dX7_reckon_91 : decode cX7_reckon 91 = .ok (.iload_n 3, 1) := by decide +kernel
theorem dX7_reckon_92 : decode cX7_reckon 92 = .ok (.iload_n 2, 1) := by decide +kernel
theorem dX7_reckon_93 : decode cX7_reckon 93 = .ok (.invokestatic 162, 3) := by decide +kernel
theorem dX7_reckon_96 : decode cX7_reckon 96 = .ok (.invokevirtual 150, 3) := by decide +kernel
theorem dX7_reckon_99 : decode cX7_reckon 99 = .ok (.ireturn, 1) := by decide +kernel
def wp_X7_reckon : List Cond := .code yX7_reckon cX7_reckon 4 (some .int) :: (((([.fieldLink RX7 46 "SteadyMachine$Runner" "height" "I"] ++ (wsV RX7 150 RX7 yX7_pushInt wp_X7_pushInt)) ++ (wsV RX7 159 RX7 yX7_below wp_X7_below)) ++ (va_wsS RX7 162 yX7_combine wp_X7_combine)) ++ wsX70)
theorem wq_X7_reckon : wp_X7_reckon.all goodWord = true := wa_c rfl (wa_a (wa_a (wa_a (wa_a (by decide +kernel) (wa_V wq_X7_pushInt)) (wa_V wq_X7_below)) (wa_S wq_X7_combine)) uq_X7)
theorem wt_X7_reckon : GoodIn lw_tbl wp_X7_reckon := wm_c (List.mem_of_getElem? (i := 999) (by decide +kernel)) rfl (wm_a (wm_a (wm_a (wm_a (goodIn_r _ [526] (by decide +kernel) (by decide +kernel)) (wm_a (goodIn_r _ [979, 981, 46, 145] (by decide +kernel) (by decide +kernel)) wt_X7_pushInt)) (wm_a (goodIn_r _ [992, 994, 49, 145] (by decide +kernel) (by decide +kernel)) wt_X7_below)) (wm_a (goodIn_r _ [1000, 1001, 145] (by decide +kernel) (by decide +kernel)) wt_X7_combine)) ut_X7)
theorem wg_X7_reckon_X7_pushInt_150 : GoodIn wp_X7_reckon (wsV RX7 150 RX7 yX7_pushInt wp_X7_pushInt) := goodIn_sub (fun w h => List.mem_cons_of_mem _ (List.mem_append_left _ (List.mem_append_left _ (List.mem_append_left _ (List.mem_append_right _ h))))) (wa_V wq_X7_pushInt)
theorem wg_X7_reckon_X7_below_159 : GoodIn wp_X7_reckon (wsV RX7 159 RX7 yX7_below wp_X7_below) := goodIn_sub (fun w h => List.mem_cons_of_mem _ (List.mem_append_left _ (List.mem_append_left _ (List.mem_append_right _ h)))) (wa_V wq_X7_below)
theorem wg_X7_reckon_X7_combine_162 : GoodIn wp_X7_reckon (va_wsS RX7 162 yX7_combine wp_X7_combine) := goodIn_sub (fun w h => List.mem_cons_of_mem _ (List.mem_append_left _ (List.mem_append_right _ h))) (wa_S wq_X7_combine)
theorem wi_X7_reckon_X7 : ∀ w ∈ wsX70, w ∈ wp_X7_reckon := fun w h => List.mem_cons_of_mem _ (List.mem_append_right _ h)
set_option maxHeartbeats 4000000 in
set_option maxRecDepth 100000 in
theorem c_X7_reckon (l : Launch) (D : va_G) (sz t0 : Nat) (σ : sm_S) (α : sm_A) (p1 : Int32) (K : Int32 → sm_S → Prop) (hF : mp_X7_reckon σ p1 K) : Met l yX7_reckon wp_X7_reckon { frames := 3, cells := 0, slots := 0, locals := 66 } (sm_P sm_wX sm_tX 37 D sz t0 σ α [.ref (α.1 7), .int p1]) (va_Qi K (sm_B sm_wX D α) (sm_a α 37 sz)) 0 0 (sm_a α 37 sz) := by
  refine Met.ofW (cc := cX7_reckon) (maxL := 4) (ret := (some .int)) (by decide) rfl ?_
  intro p e s m args below meth c s₁ B hml hv
  obtain ⟨rfl, hsz, hP, hK, hD0, hE⟩ := hv
  have hx := B.exec
  have hb := B.bytes
  have hr := B.returns
  have hts := atoms_spec (ws := wp_X7_reckon) B.pre
  have hown : s.vm.findClass RX7 = some m.cls := findClass_of_methodNamed B.named
  have hlocks := B.notSynchronized
  subst hsz
  have hD : sm_D (sm_a α 37 s.heap.size) α 37 := hD0.own
  have hA : ∀ q : Nat, s.heap.size ≤ q → sm_a α 37 s.heap.size q := fun q h => Or.inr h
  generalize hAe : sm_a α 37 s.heap.size = A at hD hA hE ⊢
  have hS : va_S A s.heap s.heap [] := va_S.rf
  have in_X7 : ∀ w ∈ wsX70, w ∈ wp_X7_reckon := wi_X7_reckon_X7
  have k_0 := hts (.fieldLink RX7 46 "SteadyMachine$Runner" "height" "I") (by decide +kernel)
  have hl := lv_entry ([.ref (α.1 7), .int p1]) (n := 4) (Nat.le_of_ble_eq_true rfl)
  rw [lg_entry_eq]
  generalize (lg_sl ([.ref (α.1 7), .int p1]) ++ List.replicate (4 - (lg_sl ([.ref (α.1 7), .int p1])).length) Slot.unset).toArray = ls at hl ⊢
  have hl : lv_has ls 4 [(0, .ref (α.1 7)), (1, .int p1)] := hl
  have B96 : ∀ (σ : sm_S) (y1 : Int32), mp_X7_reckon_96 K σ y1 → sm_J p l e (headSpec wp_X7_reckon { frames := 3, cells := 0, slots := 0, locals := 66 }).room s m ([.ref (α.1 7), .int p1] : List Value).toArray below meth c (MQ below (va_Qi K (sm_B sm_wX D α) A) ([.ref (α.1 7), .int p1] : List Value).toArray s 0 0 A) D A 4 (sm_wX σ α) 96 [] [.int y1, .ref (α.1 7)] := by
    intro σ y1 hF H locs ls hP hS hl
    unfold mp_X7_reckon_96 at hF
    refine sm_vi (As := [.int y1]) (rest := []) hP hK hD hE hS hA ⟨hx, hb, hml, hown, hts⟩ hl.1 (c_X7_pushInt l D H.size t0 σ α y1 _ hF) (cwV 1 hts wg_X7_reckon_X7_pushInt_150 rfl rfl rfl (by decide +kernel) ⟨Nat.le_of_ble_eq_true rfl, Nat.le_of_ble_eq_true rfl⟩) (va_recv hK hP (ci := 7) (q0 := 7) rfl (sm_gX7 σ α)) rfl rfl (Nat.le_of_ble_eq_true rfl) dX7_reckon_96 ⟨Nat.zero_le _, Nat.zero_le _⟩ (fun r2 σ1 H locs hF hP hS => ?_)
    exact W.iret (v := r2) hx hb hr (fun t ht hW => ⟨⟨r2, σ1, rfl, hF, (by unfold sm_B; rw [ht]; exact hP)⟩, hS.F ht⟩) hS.2.2 dX7_reckon_99
  have B48 : ∀ (σ : sm_S) (x1 : Int32) (x2 : Int32), mp_X7_reckon_48 K σ x1 x2 → sm_J p l e (headSpec wp_X7_reckon { frames := 3, cells := 0, slots := 0, locals := 66 }).room s m ([.ref (α.1 7), .int p1] : List Value).toArray below meth c (MQ below (va_Qi K (sm_B sm_wX D α) A) ([.ref (α.1 7), .int p1] : List Value).toArray s 0 0 A) D A 4 (sm_wX σ α) 48 [(0, .ref (α.1 7)), (1, .int x1), (2, .int x2)] [] := by
    intro σ x1 x2 hF H locs ls hP hS hl
    unfold mp_X7_reckon_48 at hF
    refine lv_aload_n hx hb dX7_reckon_48 rfl (lv_at hl 0 rfl) ?_
    refine lv_iconst (v := 1) hx hb dX7_reckon_49 (by decide) ?_
    refine sm_vl (As := [.int 1]) (rest := []) hP hK hD hE hS hA ⟨hx, hb, hml, hown, hts⟩ hl.1 (c_X7_below l D H.size t0 σ α 1 _ hF) (cwV 1 hts wg_X7_reckon_X7_below_159 rfl rfl rfl (by decide +kernel) ⟨Nat.le_of_ble_eq_true rfl, Nat.le_of_ble_eq_true rfl⟩) (va_recv hK hP (ci := 7) (q0 := 7) rfl (sm_gX7 σ α)) rfl rfl (Nat.le_of_ble_eq_true rfl) dX7_reckon_50 ⟨Nat.zero_le _, Nat.zero_le _⟩ (fun r4 σ3 H locs hF hP hS => ?_)
    refine lv_l2i hx hb dX7_reckon_53 rfl ?_
    refine lv_istore_n (lv' := [(3, .int r4.toInt32), (0, .ref (α.1 7)), (1, .int x1), (2, .int x2)]) hx hb dX7_reckon_54 rfl hl (by decide) rfl (fun ls hl => ?_)
    refine lv_aload_n hx hb dX7_reckon_55 rfl (lv_at hl 1 rfl) ?_
    refine lv_dup hx hb dX7_reckon_56 rfl ?_
    refine va_get (D := D) (ci := 7) (v := .int (σ3.1 27)) (C := RX7) (T := TX7) (N := 13) hx hb hts in_X7 hown hK hP 7 (sm_gX7 σ3 α) rfl 11 (by decide) k_0 (fun _ h9 => h9) rfl dX7_reckon_57 ?_
    refine lv_iconst (v := 2) hx hb dX7_reckon_60 (by decide) ?_
    refine lv_isub hx hb dX7_reckon_61 ?_
    refine va_put (D := D) (ci := 7) (v := .int ((σ3.1 27) - 2)) (ty := .int) (C := RX7) (T := TX7) (N := 13) hx hb hts in_X7 tyX7 tyX7_ok nmX7 hown hK hP (hD.to (sm_wX_m _ _)) hS 7 (sm_gX7 σ3 α) rfl 11 (by decide) k_0 (fun _ h9 => h9) rfl (by decide +kernel) rfl rfl (Nat.le_of_ble_eq_true rfl) dX7_reckon_62 (fun H locs hP _ hS => ?_)
    rw [sm_iX27] at hP
    obtain ⟨σ5, eσ5⟩ : ∃ x : sm_S, x = sm_i σ3 27 ((σ3.1 27) - 2) := ⟨_, rfl⟩
    replace hF := hF σ5 eσ5
    rw [← eσ5] at hP
    refine lv_aload_n hx hb dX7_reckon_65 rfl (lv_at hl 1 rfl) ?_
    refine lv_iload_n hx hb dX7_reckon_66 rfl (lv_at hl 2 rfl) ?_
    refine lv_bipush (v := 10) hx hb dX7_reckon_67 (by decide) ?_
    refine lv_icmp_ne (tgt := 78) hx hb dX7_reckon_69 (by decide) (fun h6 => ?_) (fun h6 => ?_)
    · replace hF := hF.1 h6
      refine lv_iload_n hx hb dX7_reckon_78 rfl (lv_at hl 2 rfl) ?_
      refine lv_bipush (v := 11) hx hb dX7_reckon_79 (by decide) ?_
      refine lv_icmp_ne (tgt := 90) hx hb dX7_reckon_81 (by decide) (fun h7 => ?_) (fun h7 => ?_)
      · replace hF := hF.1 h7
        refine lv_iload_n hx hb dX7_reckon_90 rfl (lv_at hl 2 rfl) ?_
        refine lv_iload_n hx hb dX7_reckon_91 rfl (lv_at hl 0 rfl) ?_
        refine lv_iload_n hx hb dX7_reckon_92 rfl (lv_at hl 3 rfl) ?_
        refine sm_si (As := [.int x1, .int r4.toInt32, .int x2]) (rest := [.ref (α.1 7)]) hP hK hD hE hS hA ⟨hx, hb, hml, hown, hts⟩ hl.1 (c_X7_combine l D H.size t0 σ5 α x1 r4.toInt32 x2 _ hF) (va_cwS 3 hts wg_X7_reckon_X7_combine_162 rfl rfl rfl (by decide +kernel) ⟨Nat.le_of_ble_eq_true rfl, Nat.le_of_ble_eq_true rfl⟩) rfl rfl (Nat.le_of_ble_eq_true rfl) dX7_reckon_93 ⟨Nat.zero_le _, Nat.zero_le _⟩ (fun r9 σ8 H locs hF hP hS => ?_)
        exact B96 σ8 r9 hF H locs ls hP hS (lv_sub hl [] rfl)
      · replace hF := hF.2 h7
        refine lv_iload_n hx hb dX7_reckon_84 rfl (lv_at hl 0 rfl) ?_
        refine lv_iload_n hx hb dX7_reckon_85 rfl (lv_at hl 3 rfl) ?_
        obtain ⟨h10, hF⟩ := hF
        refine lv_irem hx hb dX7_reckon_86 h10 ?_
        refine lv_goto (tgt := 96) hx hb dX7_reckon_87 (by decide) ?_
        exact B96 σ5 (r4.toInt32 - r4.toInt32 / x2 * x2) hF H locs ls hP hS (lv_sub hl [] rfl)
    · replace hF := hF.2 h6
      refine lv_iload_n hx hb dX7_reckon_72 rfl (lv_at hl 0 rfl) ?_
      refine lv_iload_n hx hb dX7_reckon_73 rfl (lv_at hl 3 rfl) ?_
      obtain ⟨h11, hF⟩ := hF
      refine lv_idiv hx hb dX7_reckon_74 h11 ?_
      refine lv_goto (tgt := 96) hx hb dX7_reckon_75 (by decide) ?_
      exact B96 σ5 (r4.toInt32 / x2) hF H locs ls hP hS (lv_sub hl [] rfl)
  have B42 : ∀ (σ : sm_S) (x1 : Int32) (x2 : Int32), mp_X7_reckon_42 K σ x1 x2 → sm_J p l e (headSpec wp_X7_reckon { frames := 3, cells := 0, slots := 0, locals := 66 }).room s m ([.ref (α.1 7), .int p1] : List Value).toArray below meth c (MQ below (va_Qi K (sm_B sm_wX D α) A) ([.ref (α.1 7), .int p1] : List Value).toArray s 0 0 A) D A 4 (sm_wX σ α) 42 [(0, .ref (α.1 7)), (1, .int x1), (2, .int x2)] [] := by
    intro σ x1 x2 hF H locs ls hP hS hl
    unfold mp_X7_reckon_42 at hF
    refine lv_iload_n hx hb dX7_reckon_42 rfl (lv_at hl 2 rfl) ?_
    refine lv_if_ne (tgt := 48) hx hb dX7_reckon_43 (by decide) (fun h12 => ?_) (fun h12 => ?_)
    · replace hF := hF.1 h12
      exact B48 σ x1 x2 hF H locs ls hP hS (lv_sub hl [0, 1, 2] rfl)
    · replace hF := hF.2 h12
      refine lv_iconst (v := 2) hx hb dX7_reckon_46 (by decide) ?_
      exact W.iret (v := 2) hx hb hr (fun t ht hW => ⟨⟨2, σ, rfl, hF, (by unfold sm_B; rw [ht]; exact hP)⟩, hS.F ht⟩) hS.2.2 dX7_reckon_47
  unfold mp_X7_reckon at hF
  revert hP hS
  generalize hLo : ([] : List Loc) = locs
  suffices h9 : ∀ (H : Heap) (locs : List Loc), va_P D vwCl (sm_wX σ α) H → va_S A s.heap H locs → W p l e (headSpec wp_X7_reckon { frames := 3, cells := 0, slots := 0, locals := 66 }).room s m ([.ref (α.1 7), .int p1] : List Value).toArray below meth c H locs 0 0 (MQ below (va_Qi K (sm_B sm_wX D α) A) ([.ref (α.1 7), .int p1] : List Value).toArray s 0 0 A) (F0 m 0 ls []) from fun hP hS => h9 s.heap locs hP hS
  intro H locs hP hS
  refine lv_aload_n hx hb dX7_reckon_0 rfl (lv_at hl 0 rfl) ?_
  refine lv_iconst (v := 0) hx hb dX7_reckon_1 (by decide) ?_
  refine sm_vl (As := [.int 0]) (rest := []) hP hK hD hE hS hA ⟨hx, hb, hml, hown, hts⟩ hl.1 (c_X7_below l D H.size t0 σ α 0 _ hF) (cwV 1 hts wg_X7_reckon_X7_below_159 rfl rfl rfl (by decide +kernel) ⟨Nat.le_of_ble_eq_true rfl, Nat.le_of_ble_eq_true rfl⟩) (va_recv hK hP (ci := 7) (q0 := 7) rfl (sm_gX7 σ α)) rfl rfl (Nat.le_of_ble_eq_true rfl) dX7_reckon_2 ⟨Nat.zero_le _, Nat.zero_le _⟩ (fun r14 σ13 H locs hF hP hS => ?_)
  refine lv_l2i hx hb dX7_reckon_5 rfl ?_
  refine lv_istore_n (lv' := [(2, .int r14.toInt32), (0, .ref (α.1 7)), (1, .int p1)]) hx hb dX7_reckon_6 rfl hl (by decide) rfl (fun ls hl => ?_)
  refine lv_iload_n hx hb dX7_reckon_7 rfl (lv_at hl 2 rfl) ?_
  refine lv_bipush (v := 18) hx hb dX7_reckon_8 (by decide) ?_
  refine lv_icmp_ne (tgt := 30) hx hb dX7_reckon_10 (by decide) (fun h15 => ?_) (fun h15 => ?_)
  · replace hF := hF.1 h15
    refine lv_iload_n hx hb dX7_reckon_30 rfl (lv_at hl 2 rfl) ?_
    refine lv_bipush (v := 10) hx hb dX7_reckon_31 (by decide) ?_
    refine lv_icmp_eq (tgt := 42) hx hb dX7_reckon_33 (by decide) (fun h16 => ?_) (fun h16 => ?_)
    · replace hF := hF.1 h16
      exact B42 σ13 p1 r14.toInt32 hF H locs ls hP hS (lv_sub hl [1, 2, 0] rfl)
    · replace hF := hF.2 h16
      refine lv_iload_n hx hb dX7_reckon_36 rfl (lv_at hl 2 rfl) ?_
      refine lv_bipush (v := 11) hx hb dX7_reckon_37 (by decide) ?_
      refine lv_icmp_ne (tgt := 48) hx hb dX7_reckon_39 (by decide) (fun h17 => ?_) (fun h17 => ?_)
      · replace hF := hF.1 h17
        exact B48 σ13 p1 r14.toInt32 hF H locs ls hP hS (lv_sub hl [1, 2, 0] rfl)
      · replace hF := hF.2 h17
        exact B42 σ13 p1 r14.toInt32 hF H locs ls hP hS (lv_sub hl [1, 2, 0] rfl)
  · replace hF := hF.2 h15
    refine lv_aload_n hx hb dX7_reckon_13 rfl (lv_at hl 1 rfl) ?_
    refine lv_dup hx hb dX7_reckon_14 rfl ?_
    refine va_get (D := D) (ci := 7) (v := .int (σ13.1 27)) (C := RX7) (T := TX7) (N := 13) hx hb hts in_X7 hown hK hP 7 (sm_gX7 σ13 α) rfl 11 (by decide) k_0 (fun _ h9 => h9) rfl dX7_reckon_15 ?_
    refine lv_iconst (v := 1) hx hb dX7_reckon_18 (by decide) ?_
    refine lv_isub hx hb dX7_reckon_19 ?_
    refine va_put (D := D) (ci := 7) (v := .int ((σ13.1 27) - 1)) (ty := .int) (C := RX7) (T := TX7) (N := 13) hx hb hts in_X7 tyX7 tyX7_ok nmX7 hown hK hP (hD.to (sm_wX_m _ _)) hS 7 (sm_gX7 σ13 α) rfl 11 (by decide) k_0 (fun _ h9 => h9) rfl (by decide +kernel) rfl rfl (Nat.le_of_ble_eq_true rfl) dX7_reckon_20 (fun H locs hP _ hS => ?_)
    rw [sm_iX27] at hP
    obtain ⟨σ18, eσ18⟩ : ∃ x : sm_S, x = sm_i σ13 27 ((σ13.1 27) - 1) := ⟨_, rfl⟩
    replace hF := hF σ18 eσ18
    rw [← eσ18] at hP
    refine lv_aload_n hx hb dX7_reckon_23 rfl (lv_at hl 1 rfl) ?_
    refine lv_iload_n hx hb dX7_reckon_24 rfl (lv_at hl 0 rfl) ?_
    refine lv_ineg hx hb dX7_reckon_25 ?_
    refine sm_vi (As := [.int (-r14.toInt32)]) (rest := []) hP hK hD hE hS hA ⟨hx, hb, hml, hown, hts⟩ hl.1 (c_X7_pushInt l D H.size t0 σ18 α (-r14.toInt32) _ hF) (cwV 1 hts wg_X7_reckon_X7_pushInt_150 rfl rfl rfl (by decide +kernel) ⟨Nat.le_of_ble_eq_true rfl, Nat.le_of_ble_eq_true rfl⟩) (va_recv hK hP (ci := 7) (q0 := 7) rfl (sm_gX7 σ18 α)) rfl rfl (Nat.le_of_ble_eq_true rfl) dX7_reckon_26 ⟨Nat.zero_le _, Nat.zero_le _⟩ (fun r20 σ19 H locs hF hP hS => ?_)
    exact W.iret (v := r20) hx hb hr (fun t ht hW => ⟨⟨r20, σ19, rfl, hF, (by unfold sm_B; rw [ht]; exact hP)⟩, hS.F ht⟩) hS.2.2 dX7_reckon_29
theorem dX7_send_0 : decode cX7_send 0 = .ok (.aload_n 0, 1) := by decide +kernel
theorem dX7_send_1 : decode cX7_send 1 = .ok (.iconst 2, 1) := by decide +kernel
theorem dX7_send_2 : decode cX7_send 2 = .ok (.invokevirtual 72, 3) := by decide +kernel
theorem dX7_send_5 : decode cX7_send 5 = .ok (.istore_n 1, 1) := by decide +kernel
theorem dX7_send_6 : decode cX7_send 6 = .ok (.aload_n 0, 1) := by decide +kernel
theorem dX7_send_7 : decode cX7_send 7 = .ok (.getfield 21, 3) := by decide +kernel
theorem dX7_send_10 : decode cX7_send 10 = .ok (.getfield 238, 3) := by decide +kernel
theorem dX7_send_13 : decode cX7_send 13 = .ok (.aload_n 0, 1) := by decide +kernel
theorem dX7_send_14 : decode cX7_send 14 = .ok (.iconst 1, 1) := by decide +kernel
theorem dX7_send_15 : decode cX7_send 15 = .ok (.invokevirtual 72, 3) := by decide +kernel
theorem dX7_send_18 : decode cX7_send 18 = .ok (.bipush 16, 2) := by decide +kernel
theorem dX7_send_20 : decode cX7_send 20 = .ok (.imul, 1) := by decide +kernel
theorem dX7_send_21 : decode cX7_send 21 = .ok (.iload_n 1, 1) := by decide +kernel
theorem dX7_send_22 : decode cX7_send 22 = .ok (.iadd, 1) := by decide +kernel
theorem dX7_send_23 : decode cX7_send 23 = .ok (.iaload, 1) := by decide +kernel
theorem dX7_send_24 : decode cX7_send 24 = .ok (.istore_n 2, 1) := by decide +kernel
theorem dX7_send_25 : decode cX7_send 25 = .ok (.aload_n 0, 1) := by decide +kernel
theorem dX7_send_26 : decode cX7_send 26 = .ok (.aload_n 0, 1) := by decide +kernel
theorem dX7_send_27 : decode cX7_send 27 = .ok (.getfield 26, 3) := by decide +kernel
theorem dX7_send_30 : decode cX7_send 30 = .ok (.getfield 240, 3) := by decide +kernel
theorem dX7_send_33 : decode cX7_send 33 = .ok (.iload_n 2, 1) := by decide +kernel
theorem dX7_send_34 : decode cX7_send 34 = .ok (.iaload, 1) := by decide +kernel
theorem dX7_send_35 : decode cX7_send 35 = .ok (.iconst 1, 1) := by decide +kernel
theorem dX7_send_36 : decode cX7_send 36 = .ok (.isub, 1) := by decide +kernel
theorem dX7_send_37 : decode cX7_send 37 = .ok (.invokevirtual 159, 3) := by decide +kernel
theorem dX7_send_40 : decode cX7_send 40 = .ok (.l2i, 1) := by decide +kernel
theorem dX7_send_41 : decode cX7_send 41 = .ok (.istore_n 3, 1) := by decide +kernel
theorem dX7_send_42 : decode cX7_send 42 = .ok (.iload_n 3, 1) := by decide +kernel
theorem dX7_send_43 : decode cX7_send 43 = .ok (.ifCond .ne 5, 3) := by decide +kernel
theorem dX7_send_46 : decode cX7_send 46 = .ok (.iconst 0, 1) := by decide +kernel
theorem dX7_send_47 : decode cX7_send 47 = .ok (.ireturn, 1) := by decide +kernel
theorem dX7_send_48 : decode cX7_send 48 = .ok (.aload_n 0, 1) := by decide +kernel
theorem dX7_send_49 : decode cX7_send 49 = .ok (.aload_n 0, 1) := by decide +kernel
theorem dX7_send_50 : decode cX7_send 50 = .ok (.getfield 21, 3) := by decide +kernel
theorem dX7_send_53 : decode cX7_send 53 = .ok (.getfield 238, 3) := by decide +kernel
theorem dX7_send_56 : decode cX7_send 56 = .ok (.aload_n 0, 1) := by decide +kernel
theorem dX7_send_57 : decode cX7_send 57 = .ok (.getfield 27, 3) := by decide +kernel
theorem dX7_send_60 : decode cX7_send 60 = .ok (.iload_n 3, 1) := by decide +kernel
theorem dX7_send_61 : decode cX7_send 61 = .ok (.invokevirtual 120, 3) := by decide +kernel
theorem dX7_send_64 : decode cX7_send 64 = .ok (.l2i, 1) := by decide +kernel
theorem dX7_send_65 : decode cX7_send 65 = .ok (.bipush 16, 2) := by decide +kernel
theorem dX7_send_67 : decode cX7_send 67 = .ok (.imul, 1) := by decide +kernel
theorem dX7_send_68 : decode cX7_send 68 = .ok (.iload_n 1, 1) := by decide +kernel
theorem dX7_send_69 : decode cX7_send 69 = .ok (.iadd, 1) := by decide +kernel
theorem dX7_send_70 : decode cX7_send 70 = .ok (.iaload, 1) := by decide +kernel
theorem dX7_send_71 : decode cX7_send 71 = .ok (.invokevirtual 54, 3) := by decide +kernel
theorem dX7_send_74 : decode cX7_send 74 = .ok (.ireturn, 1) := by decide +kernel
def wp_X7_send : List Cond := .code yX7_send cX7_send 4 (some .int) :: ((((((([.fieldLink RX7 21 "SteadyMachine$Runner" "classes" "LSteadyMachine$Classes;", .fieldLink RX7 238 "SteadyMachine$Classes" "slot" "[I", .fieldLink RX7 26 "SteadyMachine$Runner" "methods" "LSteadyMachine$Methods;", .fieldLink RX7 240 "SteadyMachine$Methods" "params" "[I", .fieldLink RX7 27 "SteadyMachine$Runner" "heap" "LSteadyMachine$Heap;"] ++ (wsV RX7 72 RX7 yX7_operand wp_X7_operand)) ++ (wsV RX7 159 RX7 yX7_below wp_X7_below)) ++ (wsV RX7 120 RX1 yX1_look wp_X1_look)) ++ (wsV RX7 54 RX7 yX7_enter wp_X7_enter)) ++ wsX00) ++ wsX40) ++ wsX70)
theorem wq_X7_send : wp_X7_send.all goodWord = true := wa_c rfl (wa_a (wa_a (wa_a (wa_a (wa_a (wa_a (wa_a (by decide +kernel) (wa_V wq_X7_operand)) (wa_V wq_X7_below)) (wa_V wq_X1_look)) (wa_V wq_X7_enter)) uq_X0) uq_X4) uq_X7)
theorem wt_X7_send : GoodIn lw_tbl wp_X7_send := wm_c (List.mem_of_getElem? (i := 1067) (by decide +kernel)) rfl (wm_a (wm_a (wm_a (wm_a (wm_a (wm_a (wm_a (goodIn_r _ [513, 190, 514, 232, 515] (by decide +kernel) (by decide +kernel)) (wm_a (goodIn_r _ [965, 967, 44, 145] (by decide +kernel) (by decide +kernel)) wt_X7_operand)) (wm_a (goodIn_r _ [992, 994, 49, 145] (by decide +kernel) (by decide +kernel)) wt_X7_below)) (wm_a (goodIn_r _ [936, 911, 912, 144] (by decide +kernel) (by decide +kernel)) wt_X1_look)) (wm_a (goodIn_r _ [881, 883, 36, 145] (by decide +kernel) (by decide +kernel)) wt_X7_enter)) ut_X0) ut_X4) ut_X7)
theorem wg_X7_send_X7_operand_72 : GoodIn wp_X7_send (wsV RX7 72 RX7 yX7_operand wp_X7_operand) := goodIn_sub (fun w h => List.mem_cons_of_mem _ (List.mem_append_left _ (List.mem_append_left _ (List.mem_append_left _ (List.mem_append_left _ (List.mem_append_left _ (List.mem_append_left _ (List.mem_append_right _ h)))))))) (wa_V wq_X7_operand)
theorem wg_X7_send_X7_below_159 : GoodIn wp_X7_send (wsV RX7 159 RX7 yX7_below wp_X7_below) := goodIn_sub (fun w h => List.mem_cons_of_mem _ (List.mem_append_left _ (List.mem_append_left _ (List.mem_append_left _ (List.mem_append_left _ (List.mem_append_left _ (List.mem_append_right _ h))))))) (wa_V wq_X7_below)
theorem wg_X7_send_X1_look_120 : GoodIn wp_X7_send (wsV RX7 120 RX1 yX1_look wp_X1_look) := goodIn_sub (fun w h => List.mem_cons_of_mem _ (List.mem_append_left _ (List.mem_append_left _ (List.mem_append_left _ (List.mem_append_left _ (List.mem_append_right _ h)))))) (wa_V wq_X1_look)
theorem wg_X7_send_X7_enter_54 : GoodIn wp_X7_send (wsV RX7 54 RX7 yX7_enter wp_X7_enter) := goodIn_sub (fun w h => List.mem_cons_of_mem _ (List.mem_append_left _ (List.mem_append_left _ (List.mem_append_left _ (List.mem_append_right _ h))))) (wa_V wq_X7_enter)
theorem wi_X7_send_X0 : ∀ w ∈ wsX00, w ∈ wp_X7_send := fun w h => List.mem_cons_of_mem _ (List.mem_append_left _ (List.mem_append_left _ (List.mem_append_right _ h)))
theorem wi_X7_send_X4 : ∀ w ∈ wsX40, w ∈ wp_X7_send := fun w h => List.mem_cons_of_mem _ (List.mem_append_left _ (List.mem_append_right _ h))
theorem wi_X7_send_X7 : ∀ w ∈ wsX70, w ∈ wp_X7_send := fun w h => List.mem_cons_of_mem _ (List.mem_append_right _ h)
set_option maxHeartbeats 4000000 in
set_option maxRecDepth 100000 in
theorem c_X7_send (l : Launch) (D : va_G) (sz t0 : Nat) (σ : sm_S) (α : sm_A) (K : Int32 → sm_S → Prop) (hF : mp_X7_send σ K) : Met l yX7_send wp_X7_send { frames := 5, cells := 0, slots := 0, locals := 117 } (sm_P sm_wX sm_tX 37 D sz t0 σ α [.ref (α.1 7)]) (va_Qi K (sm_B sm_wX D α) (sm_a α 37 sz)) 0 0 (sm_a α 37 sz) := by
  refine Met.ofW (cc := cX7_send) (maxL := 4) (ret := (some .int)) (by decide) rfl ?_
  intro p e s m args below meth c s₁ B hml hv
  obtain ⟨rfl, hsz, hP, hK, hD0, hE⟩ := hv
  have hx := B.exec
  have hb := B.bytes
  have hr := B.returns
  have hts := atoms_spec (ws := wp_X7_send) B.pre
  have hown : s.vm.findClass RX7 = some m.cls := findClass_of_methodNamed B.named
  have hlocks := B.notSynchronized
  subst hsz
  have hD : sm_D (sm_a α 37 s.heap.size) α 37 := hD0.own
  have hA : ∀ q : Nat, s.heap.size ≤ q → sm_a α 37 s.heap.size q := fun q h => Or.inr h
  generalize hAe : sm_a α 37 s.heap.size = A at hD hA hE ⊢
  have hS : va_S A s.heap s.heap [] := va_S.rf
  have in_X0 : ∀ w ∈ wsX00, w ∈ wp_X7_send := wi_X7_send_X0
  have in_X4 : ∀ w ∈ wsX40, w ∈ wp_X7_send := wi_X7_send_X4
  have in_X7 : ∀ w ∈ wsX70, w ∈ wp_X7_send := wi_X7_send_X7
  have k_0 := hts (.fieldLink RX7 21 "SteadyMachine$Runner" "classes" "LSteadyMachine$Classes;") (by decide +kernel)
  have k_1 := hts (.fieldLink RX7 238 "SteadyMachine$Classes" "slot" "[I") (by decide +kernel)
  have k_2 := hts (.fieldLink RX7 26 "SteadyMachine$Runner" "methods" "LSteadyMachine$Methods;") (by decide +kernel)
  have k_3 := hts (.fieldLink RX7 240 "SteadyMachine$Methods" "params" "[I") (by decide +kernel)
  have k_4 := hts (.fieldLink RX7 27 "SteadyMachine$Runner" "heap" "LSteadyMachine$Heap;") (by decide +kernel)
  have hl := lv_entry ([.ref (α.1 7)]) (n := 4) (Nat.le_of_ble_eq_true rfl)
  rw [lg_entry_eq]
  generalize (lg_sl ([.ref (α.1 7)]) ++ List.replicate (4 - (lg_sl ([.ref (α.1 7)])).length) Slot.unset).toArray = ls at hl ⊢
  have hl : lv_has ls 4 [(0, .ref (α.1 7))] := hl
  unfold mp_X7_send at hF
  revert hP hS
  generalize hLo : ([] : List Loc) = locs
  suffices h9 : ∀ (H : Heap) (locs : List Loc), va_P D vwCl (sm_wX σ α) H → va_S A s.heap H locs → W p l e (headSpec wp_X7_send { frames := 5, cells := 0, slots := 0, locals := 117 }).room s m ([.ref (α.1 7)] : List Value).toArray below meth c H locs 0 0 (MQ below (va_Qi K (sm_B sm_wX D α) A) ([.ref (α.1 7)] : List Value).toArray s 0 0 A) (F0 m 0 ls []) from fun hP hS => h9 s.heap locs hP hS
  intro H locs hP hS
  refine lv_aload_n hx hb dX7_send_0 rfl (lv_at hl 0 rfl) ?_
  refine lv_iconst (v := 2) hx hb dX7_send_1 (by decide) ?_
  refine sm_vi (As := [.int 2]) (rest := []) hP hK hD hE hS hA ⟨hx, hb, hml, hown, hts⟩ hl.1 (c_X7_operand l D H.size t0 σ α 2 _ hF) (cwV 1 hts wg_X7_send_X7_operand_72 rfl rfl rfl (by decide +kernel) ⟨Nat.le_of_ble_eq_true rfl, Nat.le_of_ble_eq_true rfl⟩) (va_recv hK hP (ci := 7) (q0 := 7) rfl (sm_gX7 σ α)) rfl rfl (Nat.le_of_ble_eq_true rfl) dX7_send_2 ⟨Nat.zero_le _, Nat.zero_le _⟩ (fun r2 σ1 H locs hF hP hS => ?_)
  refine lv_istore_n (lv' := [(1, .int r2), (0, .ref (α.1 7))]) hx hb dX7_send_5 rfl hl (by decide) rfl (fun ls hl => ?_)
  refine lv_aload_n hx hb dX7_send_6 rfl (lv_at hl 1 rfl) ?_
  refine va_get (D := D) (ci := 7) (v := .ref (α.1 0)) (C := RX7) (T := TX7) (N := 13) hx hb hts in_X7 hown hK hP 7 (sm_gX7 σ1 α) rfl 1 (by decide) k_0 (fun _ h9 => h9) rfl dX7_send_7 ?_
  refine va_get (D := D) (ci := 0) (v := .ref (α.1 14)) (C := RX0) (T := TX0) (N := 7) hx hb hts in_X0 hown hK hP 0 (sm_gX0 σ1 α) rfl 4 (by decide) k_1 (fun _ h9 => h9) rfl dX7_send_10 ?_
  refine lv_aload_n hx hb dX7_send_13 rfl (lv_at hl 1 rfl) ?_
  refine lv_iconst (v := 1) hx hb dX7_send_14 (by decide) ?_
  refine sm_vi (As := [.int 1]) (rest := [.ref (α.1 14)]) hP hK hD hE hS hA ⟨hx, hb, hml, hown, hts⟩ hl.1 (c_X7_operand l D H.size t0 σ1 α 1 _ hF) (cwV 1 hts wg_X7_send_X7_operand_72 rfl rfl rfl (by decide +kernel) ⟨Nat.le_of_ble_eq_true rfl, Nat.le_of_ble_eq_true rfl⟩) (va_recv hK hP (ci := 7) (q0 := 7) rfl (sm_gX7 σ1 α)) rfl rfl (Nat.le_of_ble_eq_true rfl) dX7_send_15 ⟨Nat.zero_le _, Nat.zero_le _⟩ (fun r4 σ3 H locs hF hP hS => ?_)
  refine lv_bipush (v := 16) hx hb dX7_send_18 (by decide) ?_
  refine lv_imul hx hb dX7_send_20 ?_
  refine lv_iload_n hx hb dX7_send_21 rfl (lv_at hl 0 rfl) ?_
  refine lv_iadd hx hb dX7_send_22 ?_
  obtain ⟨h5, hF⟩ := hF
  refine va_iald (n := (σ3.2.2.1 14)) (f := (σ3.2.2.2.1 14)) hx hb hK hP 14 3 (sm_aX14 σ3 α) (sm_yX14 α) h5 dX7_send_23 ?_
  refine lv_topi (fun v6 ev6 => ?_)
  replace hF := hF v6 ev6
  refine lv_istore_n (lv' := [(2, .int v6), (1, .int r2), (0, .ref (α.1 7))]) hx hb dX7_send_24 rfl hl (by decide) rfl (fun ls hl => ?_)
  refine lv_aload_n hx hb dX7_send_25 rfl (lv_at hl 2 rfl) ?_
  refine lv_aload_n hx hb dX7_send_26 rfl (lv_at hl 2 rfl) ?_
  refine va_get (D := D) (ci := 7) (v := .ref (α.1 4)) (C := RX7) (T := TX7) (N := 13) hx hb hts in_X7 hown hK hP 7 (sm_gX7 σ3 α) rfl 2 (by decide) k_2 (fun _ h9 => h9) rfl dX7_send_27 ?_
  refine va_get (D := D) (ci := 4) (v := .ref (α.1 21)) (C := RX4) (T := TX4) (N := 12) hx hb hts in_X4 hown hK hP 4 (sm_gX4 σ3 α) rfl 3 (by decide) k_3 (fun _ h9 => h9) rfl dX7_send_30 ?_
  refine lv_iload_n hx hb dX7_send_33 rfl (lv_at hl 0 rfl) ?_
  obtain ⟨h7, hF⟩ := hF
  refine va_iald (n := (σ3.2.2.1 21)) (f := (σ3.2.2.2.1 21)) hx hb hK hP 21 10 (sm_aX21 σ3 α) (sm_yX21 α) h7 dX7_send_34 ?_
  refine lv_iconst (v := 1) hx hb dX7_send_35 (by decide) ?_
  refine lv_isub hx hb dX7_send_36 ?_
  refine sm_vl (As := [.int (((σ3.2.2.2.1 21) v6.toNatClampNeg) - 1)]) (rest := []) hP hK hD hE hS hA ⟨hx, hb, hml, hown, hts⟩ hl.1 (c_X7_below l D H.size t0 σ3 α (((σ3.2.2.2.1 21) v6.toNatClampNeg) - 1) _ hF) (cwV 1 hts wg_X7_send_X7_below_159 rfl rfl rfl (by decide +kernel) ⟨Nat.le_of_ble_eq_true rfl, Nat.le_of_ble_eq_true rfl⟩) (va_recv hK hP (ci := 7) (q0 := 7) rfl (sm_gX7 σ3 α)) rfl rfl (Nat.le_of_ble_eq_true rfl) dX7_send_37 ⟨Nat.zero_le _, Nat.zero_le _⟩ (fun r9 σ8 H locs hF hP hS => ?_)
  refine lv_l2i hx hb dX7_send_40 rfl ?_
  refine lv_istore_n (lv' := [(3, .int r9.toInt32), (2, .int v6), (1, .int r2), (0, .ref (α.1 7))]) hx hb dX7_send_41 rfl hl (by decide) rfl (fun ls hl => ?_)
  refine lv_iload_n hx hb dX7_send_42 rfl (lv_at hl 0 rfl) ?_
  refine lv_if_ne (tgt := 48) hx hb dX7_send_43 (by decide) (fun h10 => ?_) (fun h10 => ?_)
  · replace hF := hF.1 h10
    refine lv_aload_n hx hb dX7_send_48 rfl (lv_at hl 3 rfl) ?_
    refine lv_aload_n hx hb dX7_send_49 rfl (lv_at hl 3 rfl) ?_
    refine va_get (D := D) (ci := 7) (v := .ref (α.1 0)) (C := RX7) (T := TX7) (N := 13) hx hb hts in_X7 hown hK hP 7 (sm_gX7 σ8 α) rfl 1 (by decide) k_0 (fun _ h9 => h9) rfl dX7_send_50 ?_
    refine va_get (D := D) (ci := 0) (v := .ref (α.1 14)) (C := RX0) (T := TX0) (N := 7) hx hb hts in_X0 hown hK hP 0 (sm_gX0 σ8 α) rfl 4 (by decide) k_1 (fun _ h9 => h9) rfl dX7_send_53 ?_
    refine lv_aload_n hx hb dX7_send_56 rfl (lv_at hl 3 rfl) ?_
    refine va_get (D := D) (ci := 7) (v := .ref (α.1 1)) (C := RX7) (T := TX7) (N := 13) hx hb hts in_X7 hown hK hP 7 (sm_gX7 σ8 α) rfl 3 (by decide) k_4 (fun _ h9 => h9) rfl dX7_send_57 ?_
    refine lv_iload_n hx hb dX7_send_60 rfl (lv_at hl 0 rfl) ?_
    refine sm_vl (As := [.int r9.toInt32]) (rest := [.ref (α.1 14), .ref (α.1 7)]) hP hK hD hE hS hA ⟨hx, hb, hml, hown, hts⟩ hl.1 (c_X1_look l D H.size t0 σ8 α r9.toInt32 _ hF) (cwV 1 hts wg_X7_send_X1_look_120 rfl rfl rfl (by decide +kernel) ⟨Nat.le_of_ble_eq_true rfl, Nat.le_of_ble_eq_true rfl⟩) (va_recv hK hP (ci := 1) (q0 := 1) rfl (sm_gX1 σ8 α)) rfl rfl (Nat.le_of_ble_eq_true rfl) dX7_send_61 ⟨Nat.zero_le _, Nat.zero_le _⟩ (fun r12 σ11 H locs hF hP hS => ?_)
    refine lv_l2i hx hb dX7_send_64 rfl ?_
    refine lv_bipush (v := 16) hx hb dX7_send_65 (by decide) ?_
    refine lv_imul hx hb dX7_send_67 ?_
    refine lv_iload_n hx hb dX7_send_68 rfl (lv_at hl 2 rfl) ?_
    refine lv_iadd hx hb dX7_send_69 ?_
    obtain ⟨h13, hF⟩ := hF
    refine va_iald (n := (σ11.2.2.1 14)) (f := (σ11.2.2.2.1 14)) hx hb hK hP 14 3 (sm_aX14 σ11 α) (sm_yX14 α) h13 dX7_send_70 ?_
    refine sm_vi (As := [.int ((σ11.2.2.2.1 14) ((r12.toInt32 * 16) + r2).toNatClampNeg)]) (rest := []) hP hK hD hE hS hA ⟨hx, hb, hml, hown, hts⟩ hl.1 (c_X7_enter l D H.size t0 σ11 α ((σ11.2.2.2.1 14) ((r12.toInt32 * 16) + r2).toNatClampNeg) _ hF) (cwV 1 hts wg_X7_send_X7_enter_54 rfl rfl rfl (by decide +kernel) ⟨Nat.le_of_ble_eq_true rfl, Nat.le_of_ble_eq_true rfl⟩) (va_recv hK hP (ci := 7) (q0 := 7) rfl (sm_gX7 σ11 α)) rfl rfl (Nat.le_of_ble_eq_true rfl) dX7_send_71 ⟨Nat.zero_le _, Nat.zero_le _⟩ (fun r15 σ14 H locs hF hP hS => ?_)
    exact W.iret (v := r15) hx hb hr (fun t ht hW => ⟨⟨r15, σ14, rfl, hF, (by unfold sm_B; rw [ht]; exact hP)⟩, hS.F ht⟩) hS.2.2 dX7_send_74
  · replace hF := hF.2 h10
    refine lv_iconst (v := 0) hx hb dX7_send_46 (by decide) ?_
    exact W.iret (v := 0) hx hb hr (fun t ht hW => ⟨⟨0, σ8, rfl, hF, (by unfold sm_B; rw [ht]; exact hP)⟩, hS.F ht⟩) hS.2.2 dX7_send_47
theorem dX7_isA_0 : decode cX7_isA 0 = .ok (.iload_n 1, 1) := by decide +kernel
theorem dX7_isA_1 : decode cX7_isA 1 = .ok (.ifCond .ne 7, 3) := by decide +kernel
theorem dX7_isA_4 : decode cX7_isA 4 = .ok (.lconst 0, 1) := by decide +kernel
theorem dX7_isA_5 : decode cX7_isA 5 = .ok (.goto 11, 3) := by decide +kernel
theorem dX7_isA_8 : decode cX7_isA 8 = .ok (.aload_n 0, 1) := by decide +kernel
theorem dX7_isA_9 : decode cX7_isA 9 = .ok (.getfield 27, 3) := by decide +kernel
theorem dX7_isA_12 : decode cX7_isA 12 = .ok (.iload_n 1, 1) := by decide +kernel
theorem dX7_isA_13 : decode cX7_isA 13 = .ok (.invokevirtual 120, 3) := by decide +kernel
theorem dX7_isA_16 : decode cX7_isA 16 = .ok (.lstore_n 3, 1) := by decide +kernel
theorem dX7_isA_17 : decode cX7_isA 17 = .ok (.lload_n 3, 1) := by decide +kernel
theorem dX7_isA_18 : decode cX7_isA 18 = .ok (.invokestatic 189, 3) := by decide +kernel
theorem dX7_isA_21 : decode cX7_isA 21 = .ok (.iconst 2, 1) := by decide +kernel
theorem dX7_isA_22 : decode cX7_isA 22 = .ok (.if_icmp .ne 20, 3) := by decide +kernel
theorem dX7_isA_25 : decode cX7_isA 25 = .ok (.aload_n 0, 1) := by decide +kernel
theorem dX7_isA_26 : decode cX7_isA 26 = .ok (.getfield 21, 3) := by decide +kernel
theorem dX7_isA_29 : decode cX7_isA 29 = .ok (.lload_n 3, 1) := by decide +kernel
theorem dX7_isA_30 : decode cX7_isA 30 = .ok (.l2i, 1) := by decide +kernel
theorem dX7_isA_31 : decode cX7_isA 31 = .ok (.iload_n 2, 1) := by decide +kernel
theorem dX7_isA_32 : decode cX7_isA 32 = .ok (.invokevirtual 192, 3) := by decide +kernel
theorem dX7_isA_35 : decode cX7_isA 35 = .ok (.ifCond .eq 7, 3) := by decide +kernel
theorem dX7_isA_38 : decode cX7_isA 38 = .ok (.iconst 1, 1) := by decide +kernel
theorem dX7_isA_39 : decode cX7_isA 39 = .ok (.goto 4, 3) := by decide +kernel
theorem dX7_isA_42 : decode cX7_isA 42 = .ok (.iconst 0, 1) := by decide +kernel
theorem dX7_isA_43 : decode cX7_isA 43 = .ok (.ireturn, 1) := by decide +kernel
def wp_X7_isA : List Cond := .code yX7_isA cX7_isA 5 (some .boolean) :: (((([.fieldLink RX7 21 "SteadyMachine$Runner" "classes" "LSteadyMachine$Classes;", .fieldLink RX7 27 "SteadyMachine$Runner" "heap" "LSteadyMachine$Heap;"] ++ (va_wsS RX7 189 yX1_kind wp_X1_kind)) ++ (wsV RX7 192 RX0 yX0_isOrBelow wp_X0_isOrBelow)) ++ (wsV RX7 120 RX1 yX1_look wp_X1_look)) ++ wsX70)
theorem wq_X7_isA : wp_X7_isA.all goodWord = true := wa_c rfl (wa_a (wa_a (wa_a (wa_a (by decide +kernel) (wa_S wq_X1_kind)) (wa_V wq_X0_isOrBelow)) (wa_V wq_X1_look)) uq_X7)
theorem wt_X7_isA : GoodIn lw_tbl wp_X7_isA := wm_c (List.mem_of_getElem? (i := 1027) (by decide +kernel)) rfl (wm_a (wm_a (wm_a (wm_a (goodIn_r _ [513, 515] (by decide +kernel) (by decide +kernel)) (wm_a (goodIn_r _ [1028, 1029, 144] (by decide +kernel) (by decide +kernel)) wt_X1_kind)) (wm_a (goodIn_r _ [959, 809, 810, 138] (by decide +kernel) (by decide +kernel)) wt_X0_isOrBelow)) (wm_a (goodIn_r _ [936, 911, 912, 144] (by decide +kernel) (by decide +kernel)) wt_X1_look)) ut_X7)
theorem wg_X7_isA_X1_kind_189 : GoodIn wp_X7_isA (va_wsS RX7 189 yX1_kind wp_X1_kind) := goodIn_sub (fun w h => List.mem_cons_of_mem _ (List.mem_append_left _ (List.mem_append_left _ (List.mem_append_left _ (List.mem_append_right _ h))))) (wa_S wq_X1_kind)
theorem wg_X7_isA_X0_isOrBelow_192 : GoodIn wp_X7_isA (wsV RX7 192 RX0 yX0_isOrBelow wp_X0_isOrBelow) := goodIn_sub (fun w h => List.mem_cons_of_mem _ (List.mem_append_left _ (List.mem_append_left _ (List.mem_append_right _ h)))) (wa_V wq_X0_isOrBelow)
theorem wg_X7_isA_X1_look_120 : GoodIn wp_X7_isA (wsV RX7 120 RX1 yX1_look wp_X1_look) := goodIn_sub (fun w h => List.mem_cons_of_mem _ (List.mem_append_left _ (List.mem_append_right _ h))) (wa_V wq_X1_look)
theorem wi_X7_isA_X7 : ∀ w ∈ wsX70, w ∈ wp_X7_isA := fun w h => List.mem_cons_of_mem _ (List.mem_append_right _ h)
set_option maxHeartbeats 4000000 in
set_option maxRecDepth 100000 in
theorem c_X7_isA (l : Launch) (D : va_G) (sz t0 : Nat) (σ : sm_S) (α : sm_A) (p1 : Int32) (p2 : Int32) (K : Int32 → sm_S → Prop) (hF : mp_X7_isA σ p1 p2 K) : Met l yX7_isA wp_X7_isA { frames := 1, cells := 0, slots := 0, locals := 24 } (sm_P sm_wX sm_tX 37 D sz t0 σ α [.ref (α.1 7), .int p1, .int p2]) (va_Qi K (sm_B sm_wX D α) (sm_a α 37 sz)) 0 0 (sm_a α 37 sz) := by
  refine Met.ofW (cc := cX7_isA) (maxL := 5) (ret := (some .boolean)) (by decide) rfl ?_
  intro p e s m args below meth c s₁ B hml hv
  obtain ⟨rfl, hsz, hP, hK, hD0, hE⟩ := hv
  have hx := B.exec
  have hb := B.bytes
  have hr := B.returns
  have hts := atoms_spec (ws := wp_X7_isA) B.pre
  have hown : s.vm.findClass RX7 = some m.cls := findClass_of_methodNamed B.named
  have hlocks := B.notSynchronized
  subst hsz
  have hD : sm_D (sm_a α 37 s.heap.size) α 37 := hD0.own
  have hA : ∀ q : Nat, s.heap.size ≤ q → sm_a α 37 s.heap.size q := fun q h => Or.inr h
  generalize hAe : sm_a α 37 s.heap.size = A at hD hA hE ⊢
  have hS : va_S A s.heap s.heap [] := va_S.rf
  have in_X7 : ∀ w ∈ wsX70, w ∈ wp_X7_isA := wi_X7_isA_X7
  have k_0 := hts (.fieldLink RX7 21 "SteadyMachine$Runner" "classes" "LSteadyMachine$Classes;") (by decide +kernel)
  have k_1 := hts (.fieldLink RX7 27 "SteadyMachine$Runner" "heap" "LSteadyMachine$Heap;") (by decide +kernel)
  have hl := lv_entry ([.ref (α.1 7), .int p1, .int p2]) (n := 5) (Nat.le_of_ble_eq_true rfl)
  rw [lg_entry_eq]
  generalize (lg_sl ([.ref (α.1 7), .int p1, .int p2]) ++ List.replicate (5 - (lg_sl ([.ref (α.1 7), .int p1, .int p2])).length) Slot.unset).toArray = ls at hl ⊢
  have hl : lv_has ls 5 [(0, .ref (α.1 7)), (1, .int p1), (2, .int p2)] := hl
  have B43 : ∀ (σ : sm_S) (y0 : Int32), mp_X7_isA_43 K σ y0 → sm_J p l e (headSpec wp_X7_isA { frames := 1, cells := 0, slots := 0, locals := 24 }).room s m ([.ref (α.1 7), .int p1, .int p2] : List Value).toArray below meth c (MQ below (va_Qi K (sm_B sm_wX D α) A) ([.ref (α.1 7), .int p1, .int p2] : List Value).toArray s 0 0 A) D A 5 (sm_wX σ α) 43 [] [.int y0] := by
    intro σ y0 hF H locs ls hP hS hl
    unfold mp_X7_isA_43 at hF
    obtain ⟨h1, hF⟩ := hF
    exact W.zret (v := y0) hx hb hr h1.1 (fun t ht hW => ⟨⟨y0, σ, rfl, hF, (by unfold sm_B; rw [ht]; exact hP)⟩, hS.F ht⟩) hS.2.2 dX7_isA_43
  have B42 : ∀ (σ : sm_S), mp_X7_isA_42 K σ → sm_J p l e (headSpec wp_X7_isA { frames := 1, cells := 0, slots := 0, locals := 24 }).room s m ([.ref (α.1 7), .int p1, .int p2] : List Value).toArray below meth c (MQ below (va_Qi K (sm_B sm_wX D α) A) ([.ref (α.1 7), .int p1, .int p2] : List Value).toArray s 0 0 A) D A 5 (sm_wX σ α) 42 [] [] := by
    intro σ hF H locs ls hP hS hl
    unfold mp_X7_isA_42 at hF
    refine lv_iconst (v := 0) hx hb dX7_isA_42 (by decide) ?_
    exact B43 σ 0 hF H locs ls hP hS (lv_sub hl [] rfl)
  have B16 : ∀ (σ : sm_S) (x2 : Int32) (y0 : Int64), mp_X7_isA_16 K σ x2 y0 → sm_J p l e (headSpec wp_X7_isA { frames := 1, cells := 0, slots := 0, locals := 24 }).room s m ([.ref (α.1 7), .int p1, .int p2] : List Value).toArray below meth c (MQ below (va_Qi K (sm_B sm_wX D α) A) ([.ref (α.1 7), .int p1, .int p2] : List Value).toArray s 0 0 A) D A 5 (sm_wX σ α) 16 [(0, .ref (α.1 7)), (2, .int x2)] [.long y0] := by
    intro σ x2 y0 hF H locs ls hP hS hl
    unfold mp_X7_isA_16 at hF
    refine lv_lstore_n (lv' := [(3, .long y0), (0, .ref (α.1 7)), (2, .int x2)]) hx hb dX7_isA_16 rfl hl (by decide) rfl (fun ls hl => ?_)
    refine lv_lload_n hx hb dX7_isA_17 rfl (lv_at hl 0 rfl) ?_
    refine sm_si (As := [.long y0]) (rest := []) hP hK hD hE hS hA ⟨hx, hb, hml, hown, hts⟩ hl.1 (c_X1_kind l D H.size t0 σ α y0 _ hF) (va_cwS 1 hts wg_X7_isA_X1_kind_189 rfl rfl rfl (by decide +kernel) ⟨Nat.le_of_ble_eq_true rfl, Nat.le_of_ble_eq_true rfl⟩) rfl rfl (Nat.le_of_ble_eq_true rfl) dX7_isA_18 ⟨Nat.zero_le _, Nat.zero_le _⟩ (fun r3 σ2 H locs hF hP hS => ?_)
    refine lv_iconst (v := 2) hx hb dX7_isA_21 (by decide) ?_
    refine lv_icmp_ne (tgt := 42) hx hb dX7_isA_22 (by decide) (fun h4 => ?_) (fun h4 => ?_)
    · replace hF := hF.1 h4
      exact B42 σ2 hF H locs ls hP hS (lv_sub hl [] rfl)
    · replace hF := hF.2 h4
      refine lv_aload_n hx hb dX7_isA_25 rfl (lv_at hl 1 rfl) ?_
      refine va_get (D := D) (ci := 7) (v := .ref (α.1 0)) (C := RX7) (T := TX7) (N := 13) hx hb hts in_X7 hown hK hP 7 (sm_gX7 σ2 α) rfl 1 (by decide) k_0 (fun _ h9 => h9) rfl dX7_isA_26 ?_
      refine lv_lload_n hx hb dX7_isA_29 rfl (lv_at hl 0 rfl) ?_
      refine lv_l2i hx hb dX7_isA_30 rfl ?_
      refine lv_iload_n hx hb dX7_isA_31 rfl (lv_at hl 2 rfl) ?_
      refine sm_vi (As := [.int y0.toInt32, .int x2]) (rest := []) hP hK hD hE hS hA ⟨hx, hb, hml, hown, hts⟩ hl.1 (c_X0_isOrBelow l D H.size t0 σ2 α y0.toInt32 x2 _ hF) (cwV 2 hts wg_X7_isA_X0_isOrBelow_192 rfl rfl rfl (by decide +kernel) ⟨Nat.le_of_ble_eq_true rfl, Nat.le_of_ble_eq_true rfl⟩) (va_recv hK hP (ci := 0) (q0 := 0) rfl (sm_gX0 σ2 α)) rfl rfl (Nat.le_of_ble_eq_true rfl) dX7_isA_32 ⟨Nat.zero_le _, Nat.zero_le _⟩ (fun r6 σ5 H locs hF hP hS => ?_)
      refine lv_if_eq (tgt := 42) hx hb dX7_isA_35 (by decide) (fun h7 => ?_) (fun h7 => ?_)
      · replace hF := hF.1 h7
        exact B42 σ5 hF H locs ls hP hS (lv_sub hl [] rfl)
      · replace hF := hF.2 h7
        refine lv_iconst (v := 1) hx hb dX7_isA_38 (by decide) ?_
        refine lv_goto (tgt := 43) hx hb dX7_isA_39 (by decide) ?_
        exact B43 σ5 1 hF H locs ls hP hS (lv_sub hl [] rfl)
  unfold mp_X7_isA at hF
  revert hP hS
  generalize hLo : ([] : List Loc) = locs
  suffices h9 : ∀ (H : Heap) (locs : List Loc), va_P D vwCl (sm_wX σ α) H → va_S A s.heap H locs → W p l e (headSpec wp_X7_isA { frames := 1, cells := 0, slots := 0, locals := 24 }).room s m ([.ref (α.1 7), .int p1, .int p2] : List Value).toArray below meth c H locs 0 0 (MQ below (va_Qi K (sm_B sm_wX D α) A) ([.ref (α.1 7), .int p1, .int p2] : List Value).toArray s 0 0 A) (F0 m 0 ls []) from fun hP hS => h9 s.heap locs hP hS
  intro H locs hP hS
  refine lv_iload_n hx hb dX7_isA_0 rfl (lv_at hl 1 rfl) ?_
  refine lv_if_ne (tgt := 8) hx hb dX7_isA_1 (by decide) (fun h8 => ?_) (fun h8 => ?_)
  · replace hF := hF.1 h8
    refine lv_aload_n hx hb dX7_isA_8 rfl (lv_at hl 0 rfl) ?_
    refine va_get (D := D) (ci := 7) (v := .ref (α.1 1)) (C := RX7) (T := TX7) (N := 13) hx hb hts in_X7 hown hK hP 7 (sm_gX7 σ α) rfl 3 (by decide) k_1 (fun _ h9 => h9) rfl dX7_isA_9 ?_
    refine lv_iload_n hx hb dX7_isA_12 rfl (lv_at hl 1 rfl) ?_
    refine sm_vl (As := [.int p1]) (rest := []) hP hK hD hE hS hA ⟨hx, hb, hml, hown, hts⟩ hl.1 (c_X1_look l D H.size t0 σ α p1 _ hF) (cwV 1 hts wg_X7_isA_X1_look_120 rfl rfl rfl (by decide +kernel) ⟨Nat.le_of_ble_eq_true rfl, Nat.le_of_ble_eq_true rfl⟩) (va_recv hK hP (ci := 1) (q0 := 1) rfl (sm_gX1 σ α)) rfl rfl (Nat.le_of_ble_eq_true rfl) dX7_isA_13 ⟨Nat.zero_le _, Nat.zero_le _⟩ (fun r10 σ9 H locs hF hP hS => ?_)
    exact B16 σ9 p2 r10 hF H locs ls hP hS (lv_sub hl [0, 2] rfl)
  · replace hF := hF.2 h8
    refine lv_lconst (v := 0) hx hb dX7_isA_4 (by decide) ?_
    refine lv_goto (tgt := 16) hx hb dX7_isA_5 (by decide) ?_
    exact B16 σ p2 0 hF H locs ls hP hS (lv_sub hl [0, 2] rfl)
theorem dX7_useObject_0 : decode cX7_useObject 0 = .ok (.iload_n 1, 1) := by decide +kernel
theorem dX7_useObject_1 : decode cX7_useObject 1 = .ok (.bipush 26, 2) := by decide +kernel
theorem dX7_useObject_3 : decode cX7_useObject 3 = .ok (.if_icmp .ne 32, 3) := by decide +kernel
theorem dX7_useObject_6 : decode cX7_useObject 6 = .ok (.aload_n 0, 1) := by decide +kernel
theorem dX7_useObject_7 : decode cX7_useObject 7 = .ok (.aload_n 0, 1) := by decide +kernel
theorem dX7_useObject_8 : decode cX7_useObject 8 = .ok (.iconst 1, 1) := by decide +kernel
theorem dX7_useObject_9 : decode cX7_useObject 9 = .ok (.invokevirtual 72, 3) := by decide +kernel
theorem dX7_useObject_12 : decode cX7_useObject 12 = .ok (.invokevirtual 176, 3) := by decide +kernel
theorem dX7_useObject_15 : decode cX7_useObject 15 = .ok (.istore_n 2, 1) := by decide +kernel
theorem dX7_useObject_16 : decode cX7_useObject 16 = .ok (.iload_n 2, 1) := by decide +kernel
theorem dX7_useObject_17 : decode cX7_useObject 17 = .ok (.ifCond .ne 8, 3) := by decide +kernel
theorem dX7_useObject_20 : decode cX7_useObject 20 = .ok (.bipush (-3), 2) := by decide +kernel
theorem dX7_useObject_22 : decode cX7_useObject 22 = .ok (.goto 12, 3) := by decide +kernel
theorem dX7_useObject_25 : decode cX7_useObject 25 = .ok (.aload_n 0, 1) := by decide +kernel
theorem dX7_useObject_26 : decode cX7_useObject 26 = .ok (.iconst 1, 1) := by decide +kernel
theorem dX7_useObject_27 : decode cX7_useObject 27 = .ok (.iload_n 2, 1) := by decide +kernel
theorem dX7_useObject_28 : decode cX7_useObject 28 = .ok (.invokestatic 139, 3) := by decide +kernel
theorem dX7_useObject_31 : decode cX7_useObject 31 = .ok (.invokevirtual 143, 3) := by decide +kernel
theorem dX7_useObject_34 : decode cX7_useObject 34 = .ok (.ireturn, 1) := by decide +kernel
theorem dX7_useObject_35 : decode cX7_useObject 35 = .ok (.aload_n 0, 1) := by decide +kernel
theorem dX7_useObject_36 : decode cX7_useObject 36 = .ok (.iload_n 1, 1) := by decide +kernel
theorem dX7_useObject_37 : decode cX7_useObject 37 = .ok (.bipush 28, 2) := by decide +kernel
theorem dX7_useObject_39 : decode cX7_useObject 39 = .ok (.if_icmp .ne 7, 3) := by decide +kernel
theorem dX7_useObject_42 : decode cX7_useObject 42 = .ok (.iconst 1, 1) := by decide +kernel
theorem dX7_useObject_43 : decode cX7_useObject 43 = .ok (.goto 4, 3) := by decide +kernel
theorem dX7_useObject_46 : decode cX7_useObject 46 = .ok (.iconst 0, 1) := by decide +kernel
theorem dX7_useObject_47 : decode cX7_useObject 47 = .ok (.invokevirtual 159, 3) := by decide +kernel
theorem dX7_useObject_50 : decode cX7_useObject 50 = .ok (.l2i, 1) := by decide +kernel
theorem dX7_useObject_51 : decode cX7_useObject 51 = .ok (.istore_n 2, 1) := by decide +kernel
theorem dX7_useObject_52 : decode cX7_useObject 52 = .ok (.iload_n 2, 1) := by decide +kernel
theorem dX7_useObject_53 : decode cX7_useObject 53 = .ok (.iconst 1, 1) := by decide +kernel
theorem dX7_useObject_54 : decode cX7_useObject 54 = .ok (.iadd, 1) := by decide +kernel
theorem dX7_useObject_55 : decode cX7_useObject 55 = .ok (.aload_n 0, 1) := by decide +kernel
theorem dX7_useObject_56 : decode cX7_useObject 56 = .ok (.iconst 2, 1) := by decide +kernel
theorem dX7_useObject_57 : decode cX7_useObject 57 = .ok (.invokevirtual 72, 3) := by decide +kernel
theorem dX7_useObject_60 : decode cX7_useObject 60 = .ok (.iadd, 1) := by decide +kernel
theorem dX7_useObject_61 : decode cX7_useObject 61 = .ok (.istore_n 3, 1) := by decide +kernel
theorem dX7_useObject_62 : decode cX7_useObject 62 = .ok (.iload_n 1, 1) := by decide +kernel
theorem dX7_useObject_63 : decode cX7_useObject 63 = .ok (.tableswitch 117 27 29 #[25, 54, 84], 25) := by decide +kernel
theorem dX7_useObject_88 : decode cX7_useObject 88 = .ok (.iload_n 2, 1) := by decide +kernel
theorem dX7_useObject_89 : decode cX7_useObject 89 = .ok (.ifCond .ne 5, 3) := by decide +kernel
theorem dX7_useObject_92 : decode cX7_useObject 92 = .ok (.iconst 0, 1) := by decide +kernel
theorem dX7_useObject_93 : decode cX7_useObject 93 = .ok (.ireturn, 1) := by decide +kernel
theorem dX7_useObject_94 : decode cX7_useObject 94 = .ok (.aload_n 0, 1) := by decide +kernel
theorem dX7_useObject_95 : decode cX7_useObject 95 = .ok (.dup, 1) := by decide +kernel
theorem dX7_useObject_96 : decode cX7_useObject 96 = .ok (.getfield 46, 3) := by decide +kernel
theorem dX7_useObject_99 : decode cX7_useObject 99 = .ok (.iconst 1, 1) := by decide +kernel
theorem dX7_useObject_100 : decode cX7_useObject 100 = .ok (.isub, 1) := by decide +kernel
theorem dX7_useObject_101 : decode cX7_useObject 101 = .ok (.putfield 46, 3) := by decide +kernel
theorem dX7_useObject_104 : decode cX7_useObject 104 = .ok (.aload_n 0, 1) := by decide +kernel
theorem dX7_useObject_105 : decode cX7_useObject 105 = .ok (.aload_n 0, 1) := by decide +kernel
theorem dX7_useObject_106 : decode cX7_useObject 106 = .ok (.getfield 27, 3) := by decide +kernel
theorem dX7_useObject_109 : decode cX7_useObject 109 = .ok (.iload_n 3, 1) := by decide +kernel
theorem dX7_useObject_110 : decode cX7_useObject 110 = .ok (.invokevirtual 179, 3) := by decide +kernel
theorem dX7_useObject_113 : decode cX7_useObject 113 = .ok (.invokevirtual 143, 3) := by decide +kernel
theorem dX7_useObject_116 : decode cX7_useObject 116 = .ok (.ireturn, 1) := by decide +kernel
theorem dX7_useObject_117 : decode cX7_useObject 117 = .ok (.iload_n 2, 1) := by decide +kernel
theorem dX7_useObject_118 : decode cX7_useObject 118 = .ok (.ifCond .ne 5, 3) := by decide +kernel
theorem dX7_useObject_121 : decode cX7_useObject 121 = .ok (.iconst 0, 1) := by decide +kernel
theorem dX7_useObject_122 : decode cX7_useObject 122 = .ok (.ireturn, 1) := by decide +kernel
theorem dX7_useObject_123 : decode cX7_useObject 123 = .ok (.aload_n 0, 1) := by decide +kernel
theorem dX7_useObject_124 : decode cX7_useObject 124 = .ok (.getfield 27, 3) := by decide +kernel
theorem dX7_useObject_127 : decode cX7_useObject 127 = .ok (.iload_n 3, 1) := by decide +kernel
theorem dX7_useObject_128 : decode cX7_useObject 128 = .ok (.aload_n 0, 1) := by decide +kernel
theorem dX7_useObject_129 : decode cX7_useObject 129 = .ok (.invokevirtual 155, 3) := by decide +kernel
theorem dX7_useObject_132 : decode cX7_useObject 132 = .ok (.invokevirtual 182, 3) := by decide +kernel
theorem dX7_useObject_135 : decode cX7_useObject 135 = .ok (.aload_n 0, 1) := by decide +kernel
theorem dX7_useObject_136 : decode cX7_useObject 136 = .ok (.dup, 1) := by decide +kernel
theorem dX7_useObject_137 : decode cX7_useObject 137 = .ok (.getfield 46, 3) := by decide +kernel
theorem dX7_useObject_140 : decode cX7_useObject 140 = .ok (.iconst 1, 1) := by decide +kernel
theorem dX7_useObject_141 : decode cX7_useObject 141 = .ok (.isub, 1) := by decide +kernel
theorem dX7_useObject_142 : decode cX7_useObject 142 = .ok (.putfield 46, 3) := by decide +kernel
theorem dX7_useObject_145 : decode cX7_useObject 145 = .ok (.iconst (-1), 1) := by decide +kernel
theorem dX7_useObject_146 : decode cX7_useObject 146 = .ok (.ireturn, 1) := by decide +kernel
theorem dX7_useObject_147 : decode cX7_useObject 147 = .ok (.aload_n 0, 1) := by decide +kernel
theorem dX7_useObject_148 : decode cX7_useObject 148 = .ok (.dup, 1) := by decide +kernel
theorem dX7_useObject_149 : decode cX7_useObject 149 = .ok (.getfield 46, 3) := by decide +kernel
theorem dX7_useObject_152 : decode cX7_useObject 152 = .ok (.iconst 1, 1) := by decide +kernel
theorem dX7_useObject_153 : decode cX7_useObject 153 = .ok (.isub, 1) := by decide +kernel
theorem dX7_useObject_154 : decode cX7_useObject 154 = .ok (.putfield 46, 3) := by decide +kernel
theorem dX7_useObject_157 : decode cX7_useObject 157 = .ok (.aload_n 0, 1) := by decide +kernel
theorem dX7_useObject_158 : decode cX7_useObject 158 = .ok (.aload_n 0, 1) := by decide +kernel
theorem dX7_useObject_159 : decode cX7_useObject 159 = .ok (.iload_n 2, 1) := by decide +kernel
theorem dX7_useObject_160 : decode cX7_useObject 160 = .ok (.aload_n 0, 1) := by decide +kernel
theorem dX7_useObject_161 : decode cX7_useObject 161 = .ok (.iconst 1, 1) := by decide +kernel
theorem dX7_useObject_162 : decode cX7_useObject 162 = .ok (.invokevirtual 72, 3) := by decide +kernel
theorem dX7_useObject_165 : decode cX7_useObject 165 = .ok (.invokevirtual 185, 3) := by decide +kernel
theorem dX7_useObject_168 : decode cX7_useObject 168 = .ok (.ifCond .eq 7, 3) := by decide +kernel
theorem dX7_useObject_171 : decode cX7_useObject 171 = .ok (.iconst 1, 1) := by decide +kernel
theorem dX7_useObject_172 : decode cX7_useObject 172 = .ok (.goto 4, 3) := by decide +kernel
theorem dX7_useObject_175 : decode cX7_useObject 175 = .ok (.iconst 0, 1) := by decide +kernel
theorem dX7_useObject_176 : decode cX7_useObject 176 = .ok (.invokevirtual 150, 3) := by decide +kernel
theorem dX7_useObject_179 : decode cX7_useObject 179 = .ok (.ireturn, 1) := by decide +kernel
theorem dX7_useObject_180 : decode cX7_useObject 180 = .ok (.iload_n 2, 1) := by decide +kernel
theorem dX7_useObject_181 : decode cX7_useObject 181 = .ok (.ifCond .eq 16, 3) := by decide +kernel
theorem dX7_useObject_184 : decode cX7_useObject 184 = .ok (.aload_n 0, 1) := by decide +kernel
theorem dX7_useObject_185 : decode cX7_useObject 185 = .ok (.iload_n 2, 1) := by decide +kernel
theorem dX7_useObject_186 : decode cX7_useObject 186 = .ok (.aload_n 0, 1) := by decide +kernel
theorem dX7_useObject_187 : decode cX7_useObject 187 = .ok (.iconst 1, 1) := by decide +kernel
theorem dX7_useObject_188 : decode cX7_useObject 188 = .ok (.invokevirtual 72, 3) := by decide +kernel
theorem dX7_useObject_191 : decode cX7_useObject 191 = .ok (.invokevirtual 185, 3) := by decide +kernel
theorem dX7_useObject_194 : decode cX7_useObject 194 = .ok (.ifCond .eq 7, 3) := by decide +kernel
theorem dX7_useObject_197 : decode cX7_useObject 197 = .ok (.iconst (-1), 1) := by decide +kernel
theorem dX7_useObject_198 : decode cX7_useObject 198 = .ok (.goto 4, 3) := by decide +kernel
theorem dX7_useObject_201 : decode cX7_useObject 201 = .ok (.iconst 3, 1) := by decide +kernel
theorem dX7_useObject_202 : decode cX7_useObject 202 = .ok (.ireturn, 1) := by decide +kernel
def wp_X7_useObject : List Cond := .code yX7_useObject cX7_useObject 4 (some .int) :: ((((((((((([.fieldLink RX7 46 "SteadyMachine$Runner" "height" "I", .fieldLink RX7 27 "SteadyMachine$Runner" "heap" "LSteadyMachine$Heap;"] ++ (wsV RX7 150 RX7 yX7_pushInt wp_X7_pushInt)) ++ (wsV RX7 159 RX7 yX7_below wp_X7_below)) ++ (wsV RX7 72 RX7 yX7_operand wp_X7_operand)) ++ (wsV RX7 179 RX1 yX1_read wp_X1_read)) ++ (wsV RX7 143 RX7 yX7_push wp_X7_push)) ++ (wsV RX7 155 RX7 yX7_pop wp_X7_pop)) ++ (wsV RX7 182 RX1 yX1_change wp_X1_change)) ++ (wsV RX7 185 RX7 yX7_isA wp_X7_isA)) ++ (wsV RX7 176 RX7 yX7_makeObject wp_X7_makeObject)) ++ (va_wsS RX7 139 yX1_cell wp_X1_cell)) ++ wsX70)
theorem wq_X7_useObject : wp_X7_useObject.all goodWord = true := wa_c rfl (wa_a (wa_a (wa_a (wa_a (wa_a (wa_a (wa_a (wa_a (wa_a (wa_a (wa_a (by decide +kernel) (wa_V wq_X7_pushInt)) (wa_V wq_X7_below)) (wa_V wq_X7_operand)) (wa_V wq_X1_read)) (wa_V wq_X7_push)) (wa_V wq_X7_pop)) (wa_V wq_X1_change)) (wa_V wq_X7_isA)) (wa_V wq_X7_makeObject)) (wa_S wq_X1_cell)) uq_X7)
theorem wt_X7_useObject : GoodIn lw_tbl wp_X7_useObject := wm_c (List.mem_of_getElem? (i := 1014) (by decide +kernel)) rfl (wm_a (wm_a (wm_a (wm_a (wm_a (wm_a (wm_a (wm_a (wm_a (wm_a (wm_a (goodIn_r _ [526, 515] (by decide +kernel) (by decide +kernel)) (wm_a (goodIn_r _ [979, 981, 46, 145] (by decide +kernel) (by decide +kernel)) wt_X7_pushInt)) (wm_a (goodIn_r _ [992, 994, 49, 145] (by decide +kernel) (by decide +kernel)) wt_X7_below)) (wm_a (goodIn_r _ [965, 967, 44, 145] (by decide +kernel) (by decide +kernel)) wt_X7_operand)) (wm_a (goodIn_r _ [1019, 907, 908, 144] (by decide +kernel) (by decide +kernel)) wt_X1_read)) (wm_a (goodIn_r _ [983, 985, 47, 145] (by decide +kernel) (by decide +kernel)) wt_X7_push)) (wm_a (goodIn_r _ [988, 990, 48, 145] (by decide +kernel) (by decide +kernel)) wt_X7_pop)) (wm_a (goodIn_r _ [1020, 1021, 1022, 144] (by decide +kernel) (by decide +kernel)) wt_X1_change)) (wm_a (goodIn_r _ [1024, 1026, 54, 145] (by decide +kernel) (by decide +kernel)) wt_X7_isA)) (wm_a (goodIn_r _ [1015, 1017, 53, 145] (by decide +kernel) (by decide +kernel)) wt_X7_makeObject)) (wm_a (goodIn_r _ [930, 919, 144] (by decide +kernel) (by decide +kernel)) wt_X1_cell)) ut_X7)
theorem wg_X7_useObject_X7_pushInt_150 : GoodIn wp_X7_useObject (wsV RX7 150 RX7 yX7_pushInt wp_X7_pushInt) := goodIn_sub (fun w h => List.mem_cons_of_mem _ (List.mem_append_left _ (List.mem_append_left _ (List.mem_append_left _ (List.mem_append_left _ (List.mem_append_left _ (List.mem_append_left _ (List.mem_append_left _ (List.mem_append_left _ (List.mem_append_left _ (List.mem_append_left _ (List.mem_append_right _ h)))))))))))) (wa_V wq_X7_pushInt)
theorem wg_X7_useObject_X7_below_159 : GoodIn wp_X7_useObject (wsV RX7 159 RX7 yX7_below wp_X7_below) := goodIn_sub (fun w h => List.mem_cons_of_mem _ (List.mem_append_left _ (List.mem_append_left _ (List.mem_append_left _ (List.mem_append_left _ (List.mem_append_left _ (List.mem_append_left _ (List.mem_append_left _ (List.mem_append_left _ (List.mem_append_left _ (List.mem_append_right _ h))))))))))) (wa_V wq_X7_below)
theorem wg_X7_useObject_X7_operand_72 : GoodIn wp_X7_useObject (wsV RX7 72 RX7 yX7_operand wp_X7_operand) := goodIn_sub (fun w h => List.mem_cons_of_mem _ (List.mem_append_left _ (List.mem_append_left _ (List.mem_append_left _ (List.mem_append_left _ (List.mem_append_left _ (List.mem_append_left _ (List.mem_append_left _ (List.mem_append_left _ (List.mem_append_right _ h)))))))))) (wa_V wq_X7_operand)
theorem wg_X7_useObject_X1_read_179 : GoodIn wp_X7_useObject (wsV RX7 179 RX1 yX1_read wp_X1_read) := goodIn_sub (fun w h => List.mem_cons_of_mem _ (List.mem_append_left _ (List.mem_append_left _ (List.mem_append_left _ (List.mem_append_left _ (List.mem_append_left _ (List.mem_append_left _ (List.mem_append_left _ (List.mem_append_right _ h))))))))) (wa_V wq_X1_read)
theorem wg_X7_useObject_X7_push_143 : GoodIn wp_X7_useObject (wsV RX7 143 RX7 yX7_push wp_X7_push) := goodIn_sub (fun w h => List.mem_cons_of_mem _ (List.mem_append_left _ (List.mem_append_left _ (List.mem_append_left _ (List.mem_append_left _ (List.mem_append_left _ (List.mem_append_left _ (List.mem_append_right _ h)))))))) (wa_V wq_X7_push)
theorem wg_X7_useObject_X7_pop_155 : GoodIn wp_X7_useObject (wsV RX7 155 RX7 yX7_pop wp_X7_pop) := goodIn_sub (fun w h => List.mem_cons_of_mem _ (List.mem_append_left _ (List.mem_append_left _ (List.mem_append_left _ (List.mem_append_left _ (List.mem_append_left _ (List.mem_append_right _ h))))))) (wa_V wq_X7_pop)
theorem wg_X7_useObject_X1_change_182 : GoodIn wp_X7_useObject (wsV RX7 182 RX1 yX1_change wp_X1_change) := goodIn_sub (fun w h => List.mem_cons_of_mem _ (List.mem_append_left _ (List.mem_append_left _ (List.mem_append_left _ (List.mem_append_left _ (List.mem_append_right _ h)))))) (wa_V wq_X1_change)
theorem wg_X7_useObject_X7_isA_185 : GoodIn wp_X7_useObject (wsV RX7 185 RX7 yX7_isA wp_X7_isA) := goodIn_sub (fun w h => List.mem_cons_of_mem _ (List.mem_append_left _ (List.mem_append_left _ (List.mem_append_left _ (List.mem_append_right _ h))))) (wa_V wq_X7_isA)
theorem wg_X7_useObject_X7_makeObject_176 : GoodIn wp_X7_useObject (wsV RX7 176 RX7 yX7_makeObject wp_X7_makeObject) := goodIn_sub (fun w h => List.mem_cons_of_mem _ (List.mem_append_left _ (List.mem_append_left _ (List.mem_append_right _ h)))) (wa_V wq_X7_makeObject)
theorem wg_X7_useObject_X1_cell_139 : GoodIn wp_X7_useObject (va_wsS RX7 139 yX1_cell wp_X1_cell) := goodIn_sub (fun w h => List.mem_cons_of_mem _ (List.mem_append_left _ (List.mem_append_right _ h))) (wa_S wq_X1_cell)
theorem wi_X7_useObject_X7 : ∀ w ∈ wsX70, w ∈ wp_X7_useObject := fun w h => List.mem_cons_of_mem _ (List.mem_append_right _ h)
set_option maxHeartbeats 4000000 in
set_option maxRecDepth 100000 in
theorem c_X7_useObject (l : Launch) (D : va_G) (sz t0 : Nat) (σ : sm_S) (α : sm_A) (p1 : Int32) (K : Int32 → sm_S → Prop) (hF : mp_X7_useObject σ p1 K) : Met l yX7_useObject wp_X7_useObject { frames := 5, cells := 0, slots := 0, locals := 118 } (sm_P sm_wX sm_tX 37 D sz t0 σ α [.ref (α.1 7), .int p1]) (va_Qi K (sm_B sm_wX D α) (sm_a α 37 sz)) 0 0 (sm_a α 37 sz) := by
  refine Met.ofW (cc := cX7_useObject) (maxL := 4) (ret := (some .int)) (by decide) rfl ?_
  intro p e s m args below meth c s₁ B hml hv
  obtain ⟨rfl, hsz, hP, hK, hD0, hE⟩ := hv
  have hx := B.exec
  have hb := B.bytes
  have hr := B.returns
  have hts := atoms_spec (ws := wp_X7_useObject) B.pre
  have hown : s.vm.findClass RX7 = some m.cls := findClass_of_methodNamed B.named
  have hlocks := B.notSynchronized
  subst hsz
  have hD : sm_D (sm_a α 37 s.heap.size) α 37 := hD0.own
  have hA : ∀ q : Nat, s.heap.size ≤ q → sm_a α 37 s.heap.size q := fun q h => Or.inr h
  generalize hAe : sm_a α 37 s.heap.size = A at hD hA hE ⊢
  have hS : va_S A s.heap s.heap [] := va_S.rf
  have in_X7 : ∀ w ∈ wsX70, w ∈ wp_X7_useObject := wi_X7_useObject_X7
  have k_0 := hts (.fieldLink RX7 46 "SteadyMachine$Runner" "height" "I") (by decide +kernel)
  have k_1 := hts (.fieldLink RX7 27 "SteadyMachine$Runner" "heap" "LSteadyMachine$Heap;") (by decide +kernel)
  have hl := lv_entry ([.ref (α.1 7), .int p1]) (n := 4) (Nat.le_of_ble_eq_true rfl)
  rw [lg_entry_eq]
  generalize (lg_sl ([.ref (α.1 7), .int p1]) ++ List.replicate (4 - (lg_sl ([.ref (α.1 7), .int p1])).length) Slot.unset).toArray = ls at hl ⊢
  have hl : lv_has ls 4 [(0, .ref (α.1 7)), (1, .int p1)] := hl
  have B202 : ∀ (σ : sm_S) (y0 : Int32), mp_X7_useObject_202 K σ y0 → sm_J p l e (headSpec wp_X7_useObject { frames := 5, cells := 0, slots := 0, locals := 118 }).room s m ([.ref (α.1 7), .int p1] : List Value).toArray below meth c (MQ below (va_Qi K (sm_B sm_wX D α) A) ([.ref (α.1 7), .int p1] : List Value).toArray s 0 0 A) D A 4 (sm_wX σ α) 202 [] [.int y0] := by
    intro σ y0 hF H locs ls hP hS hl
    unfold mp_X7_useObject_202 at hF
    exact W.iret (v := y0) hx hb hr (fun t ht hW => ⟨⟨y0, σ, rfl, hF, (by unfold sm_B; rw [ht]; exact hP)⟩, hS.F ht⟩) hS.2.2 dX7_useObject_202
  have B197 : ∀ (σ : sm_S), mp_X7_useObject_197 K σ → sm_J p l e (headSpec wp_X7_useObject { frames := 5, cells := 0, slots := 0, locals := 118 }).room s m ([.ref (α.1 7), .int p1] : List Value).toArray below meth c (MQ below (va_Qi K (sm_B sm_wX D α) A) ([.ref (α.1 7), .int p1] : List Value).toArray s 0 0 A) D A 4 (sm_wX σ α) 197 [] [] := by
    intro σ hF H locs ls hP hS hl
    unfold mp_X7_useObject_197 at hF
    refine lv_iconst (v := -1) hx hb dX7_useObject_197 (by decide) ?_
    refine lv_goto (tgt := 202) hx hb dX7_useObject_198 (by decide) ?_
    exact B202 σ (-1) hF H locs ls hP hS (lv_sub hl [] rfl)
  have B176 : ∀ (σ : sm_S) (y1 : Int32), mp_X7_useObject_176 K σ y1 → sm_J p l e (headSpec wp_X7_useObject { frames := 5, cells := 0, slots := 0, locals := 118 }).room s m ([.ref (α.1 7), .int p1] : List Value).toArray below meth c (MQ below (va_Qi K (sm_B sm_wX D α) A) ([.ref (α.1 7), .int p1] : List Value).toArray s 0 0 A) D A 4 (sm_wX σ α) 176 [] [.int y1, .ref (α.1 7)] := by
    intro σ y1 hF H locs ls hP hS hl
    unfold mp_X7_useObject_176 at hF
    refine sm_vi (As := [.int y1]) (rest := []) hP hK hD hE hS hA ⟨hx, hb, hml, hown, hts⟩ hl.1 (c_X7_pushInt l D H.size t0 σ α y1 _ hF) (cwV 1 hts wg_X7_useObject_X7_pushInt_150 rfl rfl rfl (by decide +kernel) ⟨Nat.le_of_ble_eq_true rfl, Nat.le_of_ble_eq_true rfl⟩) (va_recv hK hP (ci := 7) (q0 := 7) rfl (sm_gX7 σ α)) rfl rfl (Nat.le_of_ble_eq_true rfl) dX7_useObject_176 ⟨Nat.zero_le _, Nat.zero_le _⟩ (fun r2 σ1 H locs hF hP hS => ?_)
    exact W.iret (v := r2) hx hb hr (fun t ht hW => ⟨⟨r2, σ1, rfl, hF, (by unfold sm_B; rw [ht]; exact hP)⟩, hS.F ht⟩) hS.2.2 dX7_useObject_179
  have B47 : ∀ (σ : sm_S) (x1 : Int32) (y1 : Int32), mp_X7_useObject_47 K σ x1 y1 → sm_J p l e (headSpec wp_X7_useObject { frames := 5, cells := 0, slots := 0, locals := 118 }).room s m ([.ref (α.1 7), .int p1] : List Value).toArray below meth c (MQ below (va_Qi K (sm_B sm_wX D α) A) ([.ref (α.1 7), .int p1] : List Value).toArray s 0 0 A) D A 4 (sm_wX σ α) 47 [(0, .ref (α.1 7)), (1, .int x1)] [.int y1, .ref (α.1 7)] := by
    intro σ x1 y1 hF H locs ls hP hS hl
    unfold mp_X7_useObject_47 at hF
    refine sm_vl (As := [.int y1]) (rest := []) hP hK hD hE hS hA ⟨hx, hb, hml, hown, hts⟩ hl.1 (c_X7_below l D H.size t0 σ α y1 _ hF) (cwV 1 hts wg_X7_useObject_X7_below_159 rfl rfl rfl (by decide +kernel) ⟨Nat.le_of_ble_eq_true rfl, Nat.le_of_ble_eq_true rfl⟩) (va_recv hK hP (ci := 7) (q0 := 7) rfl (sm_gX7 σ α)) rfl rfl (Nat.le_of_ble_eq_true rfl) dX7_useObject_47 ⟨Nat.zero_le _, Nat.zero_le _⟩ (fun r4 σ3 H locs hF hP hS => ?_)
    refine lv_l2i hx hb dX7_useObject_50 rfl ?_
    refine lv_istore_n (lv' := [(2, .int r4.toInt32), (0, .ref (α.1 7)), (1, .int x1)]) hx hb dX7_useObject_51 rfl hl (by decide) rfl (fun ls hl => ?_)
    refine lv_iload_n hx hb dX7_useObject_52 rfl (lv_at hl 0 rfl) ?_
    refine lv_iconst (v := 1) hx hb dX7_useObject_53 (by decide) ?_
    refine lv_iadd hx hb dX7_useObject_54 ?_
    refine lv_aload_n hx hb dX7_useObject_55 rfl (lv_at hl 1 rfl) ?_
    refine lv_iconst (v := 2) hx hb dX7_useObject_56 (by decide) ?_
    refine sm_vi (As := [.int 2]) (rest := [.int (r4.toInt32 + 1)]) hP hK hD hE hS hA ⟨hx, hb, hml, hown, hts⟩ hl.1 (c_X7_operand l D H.size t0 σ3 α 2 _ hF) (cwV 1 hts wg_X7_useObject_X7_operand_72 rfl rfl rfl (by decide +kernel) ⟨Nat.le_of_ble_eq_true rfl, Nat.le_of_ble_eq_true rfl⟩) (va_recv hK hP (ci := 7) (q0 := 7) rfl (sm_gX7 σ3 α)) rfl rfl (Nat.le_of_ble_eq_true rfl) dX7_useObject_57 ⟨Nat.zero_le _, Nat.zero_le _⟩ (fun r6 σ5 H locs hF hP hS => ?_)
    refine lv_iadd hx hb dX7_useObject_60 ?_
    refine lv_topi (fun v7 ev7 => ?_)
    replace hF := hF v7 ev7
    refine lv_istore_n (lv' := [(3, .int v7), (2, .int r4.toInt32), (0, .ref (α.1 7)), (1, .int x1)]) hx hb dX7_useObject_61 rfl hl (by decide) rfl (fun ls hl => ?_)
    refine lv_iload_n hx hb dX7_useObject_62 rfl (lv_at hl 3 rfl) ?_
    by_cases h8 : x1 = 27
    · refine lv_tableIn (tgt := 88) hx hb dX7_useObject_63 (by rw [h8]; decide) (by rw [h8]; decide) (by rw [h8]; rfl) (by decide) ?_
      replace hF := hF.1 h8
      refine lv_iload_n hx hb dX7_useObject_88 rfl (lv_at hl 1 rfl) ?_
      refine lv_if_ne (tgt := 94) hx hb dX7_useObject_89 (by decide) (fun h9 => ?_) (fun h9 => ?_)
      · replace hF := hF.1 h9
        refine lv_aload_n hx hb dX7_useObject_94 rfl (lv_at hl 2 rfl) ?_
        refine lv_dup hx hb dX7_useObject_95 rfl ?_
        refine va_get (D := D) (ci := 7) (v := .int (σ5.1 27)) (C := RX7) (T := TX7) (N := 13) hx hb hts in_X7 hown hK hP 7 (sm_gX7 σ5 α) rfl 11 (by decide) k_0 (fun _ h9 => h9) rfl dX7_useObject_96 ?_
        refine lv_iconst (v := 1) hx hb dX7_useObject_99 (by decide) ?_
        refine lv_isub hx hb dX7_useObject_100 ?_
        refine va_put (D := D) (ci := 7) (v := .int ((σ5.1 27) - 1)) (ty := .int) (C := RX7) (T := TX7) (N := 13) hx hb hts in_X7 tyX7 tyX7_ok nmX7 hown hK hP (hD.to (sm_wX_m _ _)) hS 7 (sm_gX7 σ5 α) rfl 11 (by decide) k_0 (fun _ h9 => h9) rfl (by decide +kernel) rfl rfl (Nat.le_of_ble_eq_true rfl) dX7_useObject_101 (fun H locs hP _ hS => ?_)
        rw [sm_iX27] at hP
        obtain ⟨σ10, eσ10⟩ : ∃ x : sm_S, x = sm_i σ5 27 ((σ5.1 27) - 1) := ⟨_, rfl⟩
        replace hF := hF σ10 eσ10
        rw [← eσ10] at hP
        refine lv_aload_n hx hb dX7_useObject_104 rfl (lv_at hl 2 rfl) ?_
        refine lv_aload_n hx hb dX7_useObject_105 rfl (lv_at hl 2 rfl) ?_
        refine va_get (D := D) (ci := 7) (v := .ref (α.1 1)) (C := RX7) (T := TX7) (N := 13) hx hb hts in_X7 hown hK hP 7 (sm_gX7 σ10 α) rfl 3 (by decide) k_1 (fun _ h9 => h9) rfl dX7_useObject_106 ?_
        refine lv_iload_n hx hb dX7_useObject_109 rfl (lv_at hl 0 rfl) ?_
        refine sm_vl (As := [.int v7]) (rest := [.ref (α.1 7)]) hP hK hD hE hS hA ⟨hx, hb, hml, hown, hts⟩ hl.1 (c_X1_read l D H.size t0 σ10 α v7 _ hF) (cwV 1 hts wg_X7_useObject_X1_read_179 rfl rfl rfl (by decide +kernel) ⟨Nat.le_of_ble_eq_true rfl, Nat.le_of_ble_eq_true rfl⟩) (va_recv hK hP (ci := 1) (q0 := 1) rfl (sm_gX1 σ10 α)) rfl rfl (Nat.le_of_ble_eq_true rfl) dX7_useObject_110 ⟨Nat.zero_le _, Nat.zero_le _⟩ (fun r12 σ11 H locs hF hP hS => ?_)
        refine sm_vi (As := [.long r12]) (rest := []) hP hK hD hE hS hA ⟨hx, hb, hml, hown, hts⟩ hl.1 (c_X7_push l D H.size t0 σ11 α r12 _ hF) (cwV 1 hts wg_X7_useObject_X7_push_143 rfl rfl rfl (by decide +kernel) ⟨Nat.le_of_ble_eq_true rfl, Nat.le_of_ble_eq_true rfl⟩) (va_recv hK hP (ci := 7) (q0 := 7) rfl (sm_gX7 σ11 α)) rfl rfl (Nat.le_of_ble_eq_true rfl) dX7_useObject_113 ⟨Nat.zero_le _, Nat.zero_le _⟩ (fun r14 σ13 H locs hF hP hS => ?_)
        exact W.iret (v := r14) hx hb hr (fun t ht hW => ⟨⟨r14, σ13, rfl, hF, (by unfold sm_B; rw [ht]; exact hP)⟩, hS.F ht⟩) hS.2.2 dX7_useObject_116
      · replace hF := hF.2 h9
        refine lv_iconst (v := 0) hx hb dX7_useObject_92 (by decide) ?_
        exact W.iret (v := 0) hx hb hr (fun t ht hW => ⟨⟨0, σ5, rfl, hF, (by unfold sm_B; rw [ht]; exact hP)⟩, hS.F ht⟩) hS.2.2 dX7_useObject_93
    by_cases h15 : x1 = 28
    · refine lv_tableIn (tgt := 117) hx hb dX7_useObject_63 (by rw [h15]; decide) (by rw [h15]; decide) (by rw [h15]; rfl) (by decide) ?_
      replace hF := hF.2.1 h15
      refine lv_iload_n hx hb dX7_useObject_117 rfl (lv_at hl 1 rfl) ?_
      refine lv_if_ne (tgt := 123) hx hb dX7_useObject_118 (by decide) (fun h16 => ?_) (fun h16 => ?_)
      · replace hF := hF.1 h16
        refine lv_aload_n hx hb dX7_useObject_123 rfl (lv_at hl 2 rfl) ?_
        refine va_get (D := D) (ci := 7) (v := .ref (α.1 1)) (C := RX7) (T := TX7) (N := 13) hx hb hts in_X7 hown hK hP 7 (sm_gX7 σ5 α) rfl 3 (by decide) k_1 (fun _ h9 => h9) rfl dX7_useObject_124 ?_
        refine lv_iload_n hx hb dX7_useObject_127 rfl (lv_at hl 0 rfl) ?_
        refine lv_aload_n hx hb dX7_useObject_128 rfl (lv_at hl 2 rfl) ?_
        refine sm_vl (As := []) (rest := [.int v7, .ref (α.1 1)]) hP hK hD hE hS hA ⟨hx, hb, hml, hown, hts⟩ hl.1 (c_X7_pop l D H.size t0 σ5 α _ hF) (cwV 0 hts wg_X7_useObject_X7_pop_155 rfl rfl rfl (by decide +kernel) ⟨Nat.le_of_ble_eq_true rfl, Nat.le_of_ble_eq_true rfl⟩) (va_recv hK hP (ci := 7) (q0 := 7) rfl (sm_gX7 σ5 α)) rfl rfl (Nat.le_of_ble_eq_true rfl) dX7_useObject_129 ⟨Nat.zero_le _, Nat.zero_le _⟩ (fun r18 σ17 H locs hF hP hS => ?_)
        refine sm_vv (As := [.int v7, .long r18]) (rest := []) hP hK hD hE hS hA ⟨hx, hb, hml, hown, hts⟩ hl.1 (c_X1_change l D H.size t0 σ17 α v7 r18 _ hF) (cwV 2 hts wg_X7_useObject_X1_change_182 rfl rfl rfl (by decide +kernel) ⟨Nat.le_of_ble_eq_true rfl, Nat.le_of_ble_eq_true rfl⟩) (va_recv hK hP (ci := 1) (q0 := 1) rfl (sm_gX1 σ17 α)) rfl rfl (Nat.le_of_ble_eq_true rfl) dX7_useObject_132 ⟨Nat.zero_le _, Nat.zero_le _⟩ (fun σ19 H locs hF hP hS => ?_)
        refine lv_aload_n hx hb dX7_useObject_135 rfl (lv_at hl 2 rfl) ?_
        refine lv_dup hx hb dX7_useObject_136 rfl ?_
        refine va_get (D := D) (ci := 7) (v := .int (σ19.1 27)) (C := RX7) (T := TX7) (N := 13) hx hb hts in_X7 hown hK hP 7 (sm_gX7 σ19 α) rfl 11 (by decide) k_0 (fun _ h9 => h9) rfl dX7_useObject_137 ?_
        refine lv_iconst (v := 1) hx hb dX7_useObject_140 (by decide) ?_
        refine lv_isub hx hb dX7_useObject_141 ?_
        refine va_put (D := D) (ci := 7) (v := .int ((σ19.1 27) - 1)) (ty := .int) (C := RX7) (T := TX7) (N := 13) hx hb hts in_X7 tyX7 tyX7_ok nmX7 hown hK hP (hD.to (sm_wX_m _ _)) hS 7 (sm_gX7 σ19 α) rfl 11 (by decide) k_0 (fun _ h9 => h9) rfl (by decide +kernel) rfl rfl (Nat.le_of_ble_eq_true rfl) dX7_useObject_142 (fun H locs hP _ hS => ?_)
        rw [sm_iX27] at hP
        obtain ⟨σ20, eσ20⟩ : ∃ x : sm_S, x = sm_i σ19 27 ((σ19.1 27) - 1) := ⟨_, rfl⟩
        replace hF := hF σ20 eσ20
        rw [← eσ20] at hP
        refine lv_iconst (v := -1) hx hb dX7_useObject_145 (by decide) ?_
        exact W.iret (v := (-1)) hx hb hr (fun t ht hW => ⟨⟨(-1), σ20, rfl, hF, (by unfold sm_B; rw [ht]; exact hP)⟩, hS.F ht⟩) hS.2.2 dX7_useObject_146
      · replace hF := hF.2 h16
        refine lv_iconst (v := 0) hx hb dX7_useObject_121 (by decide) ?_
        exact W.iret (v := 0) hx hb hr (fun t ht hW => ⟨⟨0, σ5, rfl, hF, (by unfold sm_B; rw [ht]; exact hP)⟩, hS.F ht⟩) hS.2.2 dX7_useObject_122
    by_cases h21 : x1 = 29
    · refine lv_tableIn (tgt := 147) hx hb dX7_useObject_63 (by rw [h21]; decide) (by rw [h21]; decide) (by rw [h21]; rfl) (by decide) ?_
      replace hF := hF.2.2.1 h21
      refine lv_aload_n hx hb dX7_useObject_147 rfl (lv_at hl 2 rfl) ?_
      refine lv_dup hx hb dX7_useObject_148 rfl ?_
      refine va_get (D := D) (ci := 7) (v := .int (σ5.1 27)) (C := RX7) (T := TX7) (N := 13) hx hb hts in_X7 hown hK hP 7 (sm_gX7 σ5 α) rfl 11 (by decide) k_0 (fun _ h9 => h9) rfl dX7_useObject_149 ?_
      refine lv_iconst (v := 1) hx hb dX7_useObject_152 (by decide) ?_
      refine lv_isub hx hb dX7_useObject_153 ?_
      refine va_put (D := D) (ci := 7) (v := .int ((σ5.1 27) - 1)) (ty := .int) (C := RX7) (T := TX7) (N := 13) hx hb hts in_X7 tyX7 tyX7_ok nmX7 hown hK hP (hD.to (sm_wX_m _ _)) hS 7 (sm_gX7 σ5 α) rfl 11 (by decide) k_0 (fun _ h9 => h9) rfl (by decide +kernel) rfl rfl (Nat.le_of_ble_eq_true rfl) dX7_useObject_154 (fun H locs hP _ hS => ?_)
      rw [sm_iX27] at hP
      obtain ⟨σ22, eσ22⟩ : ∃ x : sm_S, x = sm_i σ5 27 ((σ5.1 27) - 1) := ⟨_, rfl⟩
      replace hF := hF σ22 eσ22
      rw [← eσ22] at hP
      refine lv_aload_n hx hb dX7_useObject_157 rfl (lv_at hl 2 rfl) ?_
      refine lv_aload_n hx hb dX7_useObject_158 rfl (lv_at hl 2 rfl) ?_
      refine lv_iload_n hx hb dX7_useObject_159 rfl (lv_at hl 1 rfl) ?_
      refine lv_aload_n hx hb dX7_useObject_160 rfl (lv_at hl 2 rfl) ?_
      refine lv_iconst (v := 1) hx hb dX7_useObject_161 (by decide) ?_
      refine sm_vi (As := [.int 1]) (rest := [.int r4.toInt32, .ref (α.1 7), .ref (α.1 7)]) hP hK hD hE hS hA ⟨hx, hb, hml, hown, hts⟩ hl.1 (c_X7_operand l D H.size t0 σ22 α 1 _ hF) (cwV 1 hts wg_X7_useObject_X7_operand_72 rfl rfl rfl (by decide +kernel) ⟨Nat.le_of_ble_eq_true rfl, Nat.le_of_ble_eq_true rfl⟩) (va_recv hK hP (ci := 7) (q0 := 7) rfl (sm_gX7 σ22 α)) rfl rfl (Nat.le_of_ble_eq_true rfl) dX7_useObject_162 ⟨Nat.zero_le _, Nat.zero_le _⟩ (fun r24 σ23 H locs hF hP hS => ?_)
      refine sm_vi (As := [.int r4.toInt32, .int r24]) (rest := [.ref (α.1 7)]) hP hK hD hE hS hA ⟨hx, hb, hml, hown, hts⟩ hl.1 (c_X7_isA l D H.size t0 σ23 α r4.toInt32 r24 _ hF) (cwV 2 hts wg_X7_useObject_X7_isA_185 rfl rfl rfl (by decide +kernel) ⟨Nat.le_of_ble_eq_true rfl, Nat.le_of_ble_eq_true rfl⟩) (va_recv hK hP (ci := 7) (q0 := 7) rfl (sm_gX7 σ23 α)) rfl rfl (Nat.le_of_ble_eq_true rfl) dX7_useObject_165 ⟨Nat.zero_le _, Nat.zero_le _⟩ (fun r26 σ25 H locs hF hP hS => ?_)
      refine lv_if_eq (tgt := 175) hx hb dX7_useObject_168 (by decide) (fun h27 => ?_) (fun h27 => ?_)
      · replace hF := hF.1 h27
        refine lv_iconst (v := 0) hx hb dX7_useObject_175 (by decide) ?_
        exact B176 σ25 0 hF H locs ls hP hS (lv_sub hl [] rfl)
      · replace hF := hF.2 h27
        refine lv_iconst (v := 1) hx hb dX7_useObject_171 (by decide) ?_
        refine lv_goto (tgt := 176) hx hb dX7_useObject_172 (by decide) ?_
        exact B176 σ25 1 hF H locs ls hP hS (lv_sub hl [] rfl)
    refine lv_tableOut (tgt := 180) hx hb dX7_useObject_63 (by have q0 := lv_neT h8 (show Int32.toInt 27 = 27 by decide); have q1 := lv_neT h15 (show Int32.toInt 28 = 28 by decide); have q2 := lv_neT h21 (show Int32.toInt 29 = 29 by decide); omega) (by decide) ?_
    replace hF := hF.2.2.2 h8 h15 h21
    refine lv_iload_n hx hb dX7_useObject_180 rfl (lv_at hl 1 rfl) ?_
    refine lv_if_eq (tgt := 197) hx hb dX7_useObject_181 (by decide) (fun h28 => ?_) (fun h28 => ?_)
    · replace hF := hF.1 h28
      exact B197 σ5 hF H locs ls hP hS (lv_sub hl [] rfl)
    · replace hF := hF.2 h28
      refine lv_aload_n hx hb dX7_useObject_184 rfl (lv_at hl 2 rfl) ?_
      refine lv_iload_n hx hb dX7_useObject_185 rfl (lv_at hl 1 rfl) ?_
      refine lv_aload_n hx hb dX7_useObject_186 rfl (lv_at hl 2 rfl) ?_
      refine lv_iconst (v := 1) hx hb dX7_useObject_187 (by decide) ?_
      refine sm_vi (As := [.int 1]) (rest := [.int r4.toInt32, .ref (α.1 7)]) hP hK hD hE hS hA ⟨hx, hb, hml, hown, hts⟩ hl.1 (c_X7_operand l D H.size t0 σ5 α 1 _ hF) (cwV 1 hts wg_X7_useObject_X7_operand_72 rfl rfl rfl (by decide +kernel) ⟨Nat.le_of_ble_eq_true rfl, Nat.le_of_ble_eq_true rfl⟩) (va_recv hK hP (ci := 7) (q0 := 7) rfl (sm_gX7 σ5 α)) rfl rfl (Nat.le_of_ble_eq_true rfl) dX7_useObject_188 ⟨Nat.zero_le _, Nat.zero_le _⟩ (fun r30 σ29 H locs hF hP hS => ?_)
      refine sm_vi (As := [.int r4.toInt32, .int r30]) (rest := []) hP hK hD hE hS hA ⟨hx, hb, hml, hown, hts⟩ hl.1 (c_X7_isA l D H.size t0 σ29 α r4.toInt32 r30 _ hF) (cwV 2 hts wg_X7_useObject_X7_isA_185 rfl rfl rfl (by decide +kernel) ⟨Nat.le_of_ble_eq_true rfl, Nat.le_of_ble_eq_true rfl⟩) (va_recv hK hP (ci := 7) (q0 := 7) rfl (sm_gX7 σ29 α)) rfl rfl (Nat.le_of_ble_eq_true rfl) dX7_useObject_191 ⟨Nat.zero_le _, Nat.zero_le _⟩ (fun r32 σ31 H locs hF hP hS => ?_)
      refine lv_if_eq (tgt := 201) hx hb dX7_useObject_194 (by decide) (fun h33 => ?_) (fun h33 => ?_)
      · replace hF := hF.1 h33
        refine lv_iconst (v := 3) hx hb dX7_useObject_201 (by decide) ?_
        exact B202 σ31 3 hF H locs ls hP hS (lv_sub hl [] rfl)
      · replace hF := hF.2 h33
        exact B197 σ31 hF H locs ls hP hS (lv_sub hl [] rfl)
  have B34 : ∀ (σ : sm_S) (y0 : Int32), mp_X7_useObject_34 K σ y0 → sm_J p l e (headSpec wp_X7_useObject { frames := 5, cells := 0, slots := 0, locals := 118 }).room s m ([.ref (α.1 7), .int p1] : List Value).toArray below meth c (MQ below (va_Qi K (sm_B sm_wX D α) A) ([.ref (α.1 7), .int p1] : List Value).toArray s 0 0 A) D A 4 (sm_wX σ α) 34 [] [.int y0] := by
    intro σ y0 hF H locs ls hP hS hl
    unfold mp_X7_useObject_34 at hF
    exact W.iret (v := y0) hx hb hr (fun t ht hW => ⟨⟨y0, σ, rfl, hF, (by unfold sm_B; rw [ht]; exact hP)⟩, hS.F ht⟩) hS.2.2 dX7_useObject_34
  unfold mp_X7_useObject at hF
  revert hP hS
  generalize hLo : ([] : List Loc) = locs
  suffices h9 : ∀ (H : Heap) (locs : List Loc), va_P D vwCl (sm_wX σ α) H → va_S A s.heap H locs → W p l e (headSpec wp_X7_useObject { frames := 5, cells := 0, slots := 0, locals := 118 }).room s m ([.ref (α.1 7), .int p1] : List Value).toArray below meth c H locs 0 0 (MQ below (va_Qi K (sm_B sm_wX D α) A) ([.ref (α.1 7), .int p1] : List Value).toArray s 0 0 A) (F0 m 0 ls []) from fun hP hS => h9 s.heap locs hP hS
  intro H locs hP hS
  refine lv_iload_n hx hb dX7_useObject_0 rfl (lv_at hl 1 rfl) ?_
  refine lv_bipush (v := 26) hx hb dX7_useObject_1 (by decide) ?_
  refine lv_icmp_ne (tgt := 35) hx hb dX7_useObject_3 (by decide) (fun h34 => ?_) (fun h34 => ?_)
  · replace hF := hF.1 h34
    refine lv_aload_n hx hb dX7_useObject_35 rfl (lv_at hl 0 rfl) ?_
    refine lv_iload_n hx hb dX7_useObject_36 rfl (lv_at hl 1 rfl) ?_
    refine lv_bipush (v := 28) hx hb dX7_useObject_37 (by decide) ?_
    refine lv_icmp_ne (tgt := 46) hx hb dX7_useObject_39 (by decide) (fun h35 => ?_) (fun h35 => ?_)
    · replace hF := hF.1 h35
      refine lv_iconst (v := 0) hx hb dX7_useObject_46 (by decide) ?_
      exact B47 σ p1 0 hF H locs ls hP hS (lv_sub hl [0, 1] rfl)
    · replace hF := hF.2 h35
      refine lv_iconst (v := 1) hx hb dX7_useObject_42 (by decide) ?_
      refine lv_goto (tgt := 47) hx hb dX7_useObject_43 (by decide) ?_
      exact B47 σ p1 1 hF H locs ls hP hS (lv_sub hl [0, 1] rfl)
  · replace hF := hF.2 h34
    refine lv_aload_n hx hb dX7_useObject_6 rfl (lv_at hl 0 rfl) ?_
    refine lv_aload_n hx hb dX7_useObject_7 rfl (lv_at hl 0 rfl) ?_
    refine lv_iconst (v := 1) hx hb dX7_useObject_8 (by decide) ?_
    refine sm_vi (As := [.int 1]) (rest := [.ref (α.1 7)]) hP hK hD hE hS hA ⟨hx, hb, hml, hown, hts⟩ hl.1 (c_X7_operand l D H.size t0 σ α 1 _ hF) (cwV 1 hts wg_X7_useObject_X7_operand_72 rfl rfl rfl (by decide +kernel) ⟨Nat.le_of_ble_eq_true rfl, Nat.le_of_ble_eq_true rfl⟩) (va_recv hK hP (ci := 7) (q0 := 7) rfl (sm_gX7 σ α)) rfl rfl (Nat.le_of_ble_eq_true rfl) dX7_useObject_9 ⟨Nat.zero_le _, Nat.zero_le _⟩ (fun r37 σ36 H locs hF hP hS => ?_)
    refine sm_vi (As := [.int r37]) (rest := []) hP hK hD hE hS hA ⟨hx, hb, hml, hown, hts⟩ hl.1 (c_X7_makeObject l D H.size t0 σ36 α r37 _ hF) (cwV 1 hts wg_X7_useObject_X7_makeObject_176 rfl rfl rfl (by decide +kernel) ⟨Nat.le_of_ble_eq_true rfl, Nat.le_of_ble_eq_true rfl⟩) (va_recv hK hP (ci := 7) (q0 := 7) rfl (sm_gX7 σ36 α)) rfl rfl (Nat.le_of_ble_eq_true rfl) dX7_useObject_12 ⟨Nat.zero_le _, Nat.zero_le _⟩ (fun r39 σ38 H locs hF hP hS => ?_)
    refine lv_istore_n (lv' := [(2, .int r39), (0, .ref (α.1 7)), (1, .int p1)]) hx hb dX7_useObject_15 rfl hl (by decide) rfl (fun ls hl => ?_)
    refine lv_iload_n hx hb dX7_useObject_16 rfl (lv_at hl 0 rfl) ?_
    refine lv_if_ne (tgt := 25) hx hb dX7_useObject_17 (by decide) (fun h40 => ?_) (fun h40 => ?_)
    · replace hF := hF.1 h40
      refine lv_aload_n hx hb dX7_useObject_25 rfl (lv_at hl 1 rfl) ?_
      refine lv_iconst (v := 1) hx hb dX7_useObject_26 (by decide) ?_
      refine lv_iload_n hx hb dX7_useObject_27 rfl (lv_at hl 0 rfl) ?_
      refine sm_sl (As := [.int 1, .int r39]) (rest := [.ref (α.1 7)]) hP hK hD hE hS hA ⟨hx, hb, hml, hown, hts⟩ hl.1 (c_X1_cell l D H.size t0 σ38 α 1 r39 _ hF) (va_cwS 2 hts wg_X7_useObject_X1_cell_139 rfl rfl rfl (by decide +kernel) ⟨Nat.le_of_ble_eq_true rfl, Nat.le_of_ble_eq_true rfl⟩) rfl rfl (Nat.le_of_ble_eq_true rfl) dX7_useObject_28 ⟨Nat.zero_le _, Nat.zero_le _⟩ (fun r42 σ41 H locs hF hP hS => ?_)
      refine sm_vi (As := [.long r42]) (rest := []) hP hK hD hE hS hA ⟨hx, hb, hml, hown, hts⟩ hl.1 (c_X7_push l D H.size t0 σ41 α r42 _ hF) (cwV 1 hts wg_X7_useObject_X7_push_143 rfl rfl rfl (by decide +kernel) ⟨Nat.le_of_ble_eq_true rfl, Nat.le_of_ble_eq_true rfl⟩) (va_recv hK hP (ci := 7) (q0 := 7) rfl (sm_gX7 σ41 α)) rfl rfl (Nat.le_of_ble_eq_true rfl) dX7_useObject_31 ⟨Nat.zero_le _, Nat.zero_le _⟩ (fun r44 σ43 H locs hF hP hS => ?_)
      exact B34 σ43 r44 hF H locs ls hP hS (lv_sub hl [] rfl)
    · replace hF := hF.2 h40
      refine lv_bipush (v := -3) hx hb dX7_useObject_20 (by decide) ?_
      refine lv_goto (tgt := 34) hx hb dX7_useObject_22 (by decide) ?_
      exact B34 σ38 (-3) hF H locs ls hP hS (lv_sub hl [] rfl)
theorem dX7_find_0 : decode cX7_find 0 = .ok (.iload_n 1, 1) := by decide +kernel
theorem dX7_find_1 : decode cX7_find 1 = .ok (.istore_n 3, 1) := by decide +kernel
theorem dX7_find_2 : decode cX7_find 2 = .ok (.iload_n 2, 1) := by decide +kernel
theorem dX7_find_3 : decode cX7_find 3 = .ok (.istore 4, 2) := by decide +kernel
theorem dX7_find_5 : decode cX7_find 5 = .ok (.aload_n 0, 1) := by decide +kernel
theorem dX7_find_6 : decode cX7_find 6 = .ok (.iconst 0, 1) := by decide +kernel
theorem dX7_find_7 : decode cX7_find 7 = .ok (.putfield 229, 3) := by decide +kernel
theorem dX7_find_10 : decode cX7_find 10 = .ok (.aload_n 0, 1) := by decide +kernel
theorem dX7_find_11 : decode cX7_find 11 = .ok (.getfield 27, 3) := by decide +kernel
theorem dX7_find_14 : decode cX7_find 14 = .ok (.iload_n 1, 1) := by decide +kernel
theorem dX7_find_15 : decode cX7_find 15 = .ok (.invokevirtual 120, 3) := by decide +kernel
theorem dX7_find_18 : decode cX7_find 18 = .ok (.invokestatic 213, 3) := by decide +kernel
theorem dX7_find_21 : decode cX7_find 21 = .ok (.invokestatic 222, 3) := by decide +kernel
theorem dX7_find_24 : decode cX7_find 24 = .ok (.istore 5, 2) := by decide +kernel
theorem dX7_find_26 : decode cX7_find 26 = .ok (.iload 5, 2) := by decide +kernel
theorem dX7_find_28 : decode cX7_find 28 = .ok (.iconst 1, 1) := by decide +kernel
theorem dX7_find_29 : decode cX7_find 29 = .ok (.if_icmp .le 55, 3) := by decide +kernel
theorem dX7_find_32 : decode cX7_find 32 = .ok (.iload_n 3, 1) := by decide +kernel
theorem dX7_find_33 : decode cX7_find 33 = .ok (.iconst 1, 1) := by decide +kernel
theorem dX7_find_34 : decode cX7_find 34 = .ok (.iadd, 1) := by decide +kernel
theorem dX7_find_35 : decode cX7_find 35 = .ok (.iload 4, 2) := by decide +kernel
theorem dX7_find_37 : decode cX7_find 37 = .ok (.iload 5, 2) := by decide +kernel
theorem dX7_find_39 : decode cX7_find 39 = .ok (.idiv, 1) := by decide +kernel
theorem dX7_find_40 : decode cX7_find 40 = .ok (.iadd, 1) := by decide +kernel
theorem dX7_find_41 : decode cX7_find 41 = .ok (.istore 6, 2) := by decide +kernel
theorem dX7_find_43 : decode cX7_find 43 = .ok (.aload_n 0, 1) := by decide +kernel
theorem dX7_find_44 : decode cX7_find 44 = .ok (.getfield 27, 3) := by decide +kernel
theorem dX7_find_47 : decode cX7_find 47 = .ok (.iload 6, 2) := by decide +kernel
theorem dX7_find_49 : decode cX7_find 49 = .ok (.invokevirtual 179, 3) := by decide +kernel
theorem dX7_find_52 : decode cX7_find 52 = .ok (.l2i, 1) := by decide +kernel
theorem dX7_find_53 : decode cX7_find 53 = .ok (.istore_n 3, 1) := by decide +kernel
theorem dX7_find_54 : decode cX7_find 54 = .ok (.iload_n 3, 1) := by decide +kernel
theorem dX7_find_55 : decode cX7_find 55 = .ok (.ifCond .ne 12, 3) := by decide +kernel
theorem dX7_find_58 : decode cX7_find 58 = .ok (.aload_n 0, 1) := by decide +kernel
theorem dX7_find_59 : decode cX7_find 59 = .ok (.iload 5, 2) := by decide +kernel
theorem dX7_find_61 : decode cX7_find 61 = .ok (.putfield 229, 3) := by decide +kernel
theorem dX7_find_64 : decode cX7_find 64 = .ok (.iload 6, 2) := by decide +kernel
theorem dX7_find_66 : decode cX7_find 66 = .ok (.ireturn, 1) := by decide +kernel
theorem dX7_find_67 : decode cX7_find 67 = .ok (.iload 4, 2) := by decide +kernel
theorem dX7_find_69 : decode cX7_find 69 = .ok (.iload 5, 2) := by decide +kernel
theorem dX7_find_71 : decode cX7_find 71 = .ok (.irem, 1) := by decide +kernel
theorem dX7_find_72 : decode cX7_find 72 = .ok (.istore 4, 2) := by decide +kernel
theorem dX7_find_74 : decode cX7_find 74 = .ok (.iload 5, 2) := by decide +kernel
theorem dX7_find_76 : decode cX7_find 76 = .ok (.bipush 15, 2) := by decide +kernel
theorem dX7_find_78 : decode cX7_find 78 = .ok (.idiv, 1) := by decide +kernel
theorem dX7_find_79 : decode cX7_find 79 = .ok (.istore 5, 2) := by decide +kernel
theorem dX7_find_81 : decode cX7_find 81 = .ok (.goto (-55), 3) := by decide +kernel
theorem dX7_find_84 : decode cX7_find 84 = .ok (.iload_n 3, 1) := by decide +kernel
theorem dX7_find_85 : decode cX7_find 85 = .ok (.iconst 1, 1) := by decide +kernel
theorem dX7_find_86 : decode cX7_find 86 = .ok (.iadd, 1) := by decide +kernel
theorem dX7_find_87 : decode cX7_find 87 = .ok (.iload 4, 2) := by decide +kernel
theorem dX7_find_89 : decode cX7_find 89 = .ok (.iadd, 1) := by decide +kernel
theorem dX7_find_90 : decode cX7_find 90 = .ok (.ireturn, 1) := by decide +kernel
def wp_X7_find : List Cond := .code yX7_find cX7_find 7 (some .int) :: ((((([.fieldLink RX7 27 "SteadyMachine$Runner" "heap" "LSteadyMachine$Heap;", .fieldLink RX7 229 "SteadyMachine$Runner" "lacking" "I"] ++ (wsV RX7 179 RX1 yX1_read wp_X1_read)) ++ (wsV RX7 120 RX1 yX1_look wp_X1_look)) ++ (va_wsS RX7 213 yX1_rowLength wp_X1_rowLength)) ++ (va_wsS RX7 222 yX1_span wp_X1_span)) ++ wsX70)
theorem wq_X7_find : wp_X7_find.all goodWord = true := wa_c rfl (wa_a (wa_a (wa_a (wa_a (wa_a (by decide +kernel) (wa_V wq_X1_read)) (wa_V wq_X1_look)) (wa_S wq_X1_rowLength)) (wa_S wq_X1_span)) uq_X7)
theorem wt_X7_find : GoodIn lw_tbl wp_X7_find := wm_c (List.mem_of_getElem? (i := 1056) (by decide +kernel)) rfl (wm_a (wm_a (wm_a (wm_a (wm_a (goodIn_r _ [515, 527] (by decide +kernel) (by decide +kernel)) (wm_a (goodIn_r _ [1019, 907, 908, 144] (by decide +kernel) (by decide +kernel)) wt_X1_read)) (wm_a (goodIn_r _ [936, 911, 912, 144] (by decide +kernel) (by decide +kernel)) wt_X1_look)) (wm_a (goodIn_r _ [1046, 1047, 144] (by decide +kernel) (by decide +kernel)) wt_X1_rowLength)) (wm_a (goodIn_r _ [1039, 1040, 144] (by decide +kernel) (by decide +kernel)) wt_X1_span)) ut_X7)
theorem wg_X7_find_X1_read_179 : GoodIn wp_X7_find (wsV RX7 179 RX1 yX1_read wp_X1_read) := goodIn_sub (fun w h => List.mem_cons_of_mem _ (List.mem_append_left _ (List.mem_append_left _ (List.mem_append_left _ (List.mem_append_left _ (List.mem_append_right _ h)))))) (wa_V wq_X1_read)
theorem wg_X7_find_X1_look_120 : GoodIn wp_X7_find (wsV RX7 120 RX1 yX1_look wp_X1_look) := goodIn_sub (fun w h => List.mem_cons_of_mem _ (List.mem_append_left _ (List.mem_append_left _ (List.mem_append_left _ (List.mem_append_right _ h))))) (wa_V wq_X1_look)
theorem wg_X7_find_X1_rowLength_213 : GoodIn wp_X7_find (va_wsS RX7 213 yX1_rowLength wp_X1_rowLength) := goodIn_sub (fun w h => List.mem_cons_of_mem _ (List.mem_append_left _ (List.mem_append_left _ (List.mem_append_right _ h)))) (wa_S wq_X1_rowLength)
theorem wg_X7_find_X1_span_222 : GoodIn wp_X7_find (va_wsS RX7 222 yX1_span wp_X1_span) := goodIn_sub (fun w h => List.mem_cons_of_mem _ (List.mem_append_left _ (List.mem_append_right _ h))) (wa_S wq_X1_span)
theorem wi_X7_find_X7 : ∀ w ∈ wsX70, w ∈ wp_X7_find := fun w h => List.mem_cons_of_mem _ (List.mem_append_right _ h)
set_option maxHeartbeats 4000000 in
set_option maxRecDepth 100000 in
theorem c_X7_find (l : Launch) (D : va_G) (sz t0 : Nat) (σ : sm_S) (α : sm_A) (p1 : Int32) (p2 : Int32) (K : Int32 → sm_S → Prop) (hF : mp_X7_find σ p1 p2 K) : Met l yX7_find wp_X7_find { frames := 2, cells := 0, slots := 0, locals := 50 } (sm_P sm_wX sm_tX 37 D sz t0 σ α [.ref (α.1 7), .int p1, .int p2]) (va_Qi K (sm_B sm_wX D α) (sm_a α 37 sz)) 0 0 (sm_a α 37 sz) := by
  refine Met.ofW (cc := cX7_find) (maxL := 7) (ret := (some .int)) (by decide) rfl ?_
  intro p e s m args below meth c s₁ B hml hv
  obtain ⟨rfl, hsz, hP, hK, hD0, hE⟩ := hv
  have hx := B.exec
  have hb := B.bytes
  have hr := B.returns
  have hts := atoms_spec (ws := wp_X7_find) B.pre
  have hown : s.vm.findClass RX7 = some m.cls := findClass_of_methodNamed B.named
  have hlocks := B.notSynchronized
  subst hsz
  have hD : sm_D (sm_a α 37 s.heap.size) α 37 := hD0.own
  have hA : ∀ q : Nat, s.heap.size ≤ q → sm_a α 37 s.heap.size q := fun q h => Or.inr h
  generalize hAe : sm_a α 37 s.heap.size = A at hD hA hE ⊢
  have hS : va_S A s.heap s.heap [] := va_S.rf
  have in_X7 : ∀ w ∈ wsX70, w ∈ wp_X7_find := wi_X7_find_X7
  have k_0 := hts (.fieldLink RX7 27 "SteadyMachine$Runner" "heap" "LSteadyMachine$Heap;") (by decide +kernel)
  have k_1 := hts (.fieldLink RX7 229 "SteadyMachine$Runner" "lacking" "I") (by decide +kernel)
  have hl := lv_entry ([.ref (α.1 7), .int p1, .int p2]) (n := 7) (Nat.le_of_ble_eq_true rfl)
  rw [lg_entry_eq]
  generalize (lg_sl ([.ref (α.1 7), .int p1, .int p2]) ++ List.replicate (7 - (lg_sl ([.ref (α.1 7), .int p1, .int p2])).length) Slot.unset).toArray = ls at hl ⊢
  have hl : lv_has ls 7 [(0, .ref (α.1 7)), (1, .int p1), (2, .int p2)] := hl
  have B26 : ∀ (n : Nat) (σ : sm_S) (x3 : Int32) (x4 : Int32) (x5 : Int32), mp_X7_find_26 K n σ x3 x4 x5 → sm_J p l e (headSpec wp_X7_find { frames := 2, cells := 0, slots := 0, locals := 50 }).room s m ([.ref (α.1 7), .int p1, .int p2] : List Value).toArray below meth c (MQ below (va_Qi K (sm_B sm_wX D α) A) ([.ref (α.1 7), .int p1, .int p2] : List Value).toArray s 0 0 A) D A 7 (sm_wX σ α) 26 [(0, .ref (α.1 7)), (3, .int x3), (4, .int x4), (5, .int x5)] [] := by
    intro n26
    induction n26 with
    | zero =>
      intro σ x3 x4 x5 hF
      exact hF.elim
    | succ n26 ih26 =>
      intro σ x3 x4 x5 hF H locs ls hP hS hl
      unfold mp_X7_find_26 at hF
      refine lv_iload hx hb dX7_find_26 (lv_at hl 3 rfl) ?_
      refine lv_iconst (v := 1) hx hb dX7_find_28 (by decide) ?_
      refine lv_icmp_le (tgt := 84) hx hb dX7_find_29 (by decide) (fun h1 => ?_) (fun h1 => ?_)
      · replace hF := hF.1 h1
        refine lv_iload_n hx hb dX7_find_84 rfl (lv_at hl 1 rfl) ?_
        refine lv_iconst (v := 1) hx hb dX7_find_85 (by decide) ?_
        refine lv_iadd hx hb dX7_find_86 ?_
        refine lv_iload hx hb dX7_find_87 (lv_at hl 2 rfl) ?_
        refine lv_iadd hx hb dX7_find_89 ?_
        exact W.iret (v := ((x3 + 1) + x4)) hx hb hr (fun t ht hW => ⟨⟨((x3 + 1) + x4), σ, rfl, hF, (by unfold sm_B; rw [ht]; exact hP)⟩, hS.F ht⟩) hS.2.2 dX7_find_90
      · replace hF := hF.2 h1
        refine lv_iload_n hx hb dX7_find_32 rfl (lv_at hl 1 rfl) ?_
        refine lv_iconst (v := 1) hx hb dX7_find_33 (by decide) ?_
        refine lv_iadd hx hb dX7_find_34 ?_
        refine lv_iload hx hb dX7_find_35 (lv_at hl 2 rfl) ?_
        refine lv_iload hx hb dX7_find_37 (lv_at hl 3 rfl) ?_
        obtain ⟨h10, hF⟩ := hF
        refine lv_idiv hx hb dX7_find_39 h10 ?_
        refine lv_iadd hx hb dX7_find_40 ?_
        refine lv_topi (fun v2 ev2 => ?_)
        replace hF := hF v2 ev2
        refine lv_istore (lv' := [(6, .int v2), (0, .ref (α.1 7)), (3, .int x3), (4, .int x4), (5, .int x5)]) hx hb dX7_find_41 hl (by decide) rfl (fun ls hl => ?_)
        refine lv_aload_n hx hb dX7_find_43 rfl (lv_at hl 1 rfl) ?_
        refine va_get (D := D) (ci := 7) (v := .ref (α.1 1)) (C := RX7) (T := TX7) (N := 13) hx hb hts in_X7 hown hK hP 7 (sm_gX7 σ α) rfl 3 (by decide) k_0 (fun _ h9 => h9) rfl dX7_find_44 ?_
        refine lv_iload hx hb dX7_find_47 (lv_at hl 0 rfl) ?_
        refine sm_vl (As := [.int v2]) (rest := []) hP hK hD hE hS hA ⟨hx, hb, hml, hown, hts⟩ hl.1 (c_X1_read l D H.size t0 σ α v2 _ hF) (cwV 1 hts wg_X7_find_X1_read_179 rfl rfl rfl (by decide +kernel) ⟨Nat.le_of_ble_eq_true rfl, Nat.le_of_ble_eq_true rfl⟩) (va_recv hK hP (ci := 1) (q0 := 1) rfl (sm_gX1 σ α)) rfl rfl (Nat.le_of_ble_eq_true rfl) dX7_find_49 ⟨Nat.zero_le _, Nat.zero_le _⟩ (fun r4 σ3 H locs hF hP hS => ?_)
        refine lv_l2i hx hb dX7_find_52 rfl ?_
        refine lv_istore_n (lv' := [(3, .int r4.toInt32), (6, .int v2), (0, .ref (α.1 7)), (4, .int x4), (5, .int x5)]) hx hb dX7_find_53 rfl hl (by decide) rfl (fun ls hl => ?_)
        refine lv_iload_n hx hb dX7_find_54 rfl (lv_at hl 0 rfl) ?_
        refine lv_if_ne (tgt := 67) hx hb dX7_find_55 (by decide) (fun h5 => ?_) (fun h5 => ?_)
        · replace hF := hF.1 h5
          refine lv_iload hx hb dX7_find_67 (lv_at hl 3 rfl) ?_
          refine lv_iload hx hb dX7_find_69 (lv_at hl 4 rfl) ?_
          obtain ⟨h8, hF⟩ := hF
          refine lv_irem hx hb dX7_find_71 h8 ?_
          refine lv_topi (fun v6 ev6 => ?_)
          replace hF := hF v6 ev6
          refine lv_istore (lv' := [(4, .int v6), (3, .int r4.toInt32), (6, .int v2), (0, .ref (α.1 7)), (5, .int x5)]) hx hb dX7_find_72 hl (by decide) rfl (fun ls hl => ?_)
          refine lv_iload hx hb dX7_find_74 (lv_at hl 4 rfl) ?_
          refine lv_bipush (v := 15) hx hb dX7_find_76 (by decide) ?_
          refine lv_idiv hx hb dX7_find_78 (by decide) ?_
          refine lv_topi (fun v7 ev7 => ?_)
          replace hF := hF v7 ev7
          refine lv_istore (lv' := [(5, .int v7), (4, .int v6), (3, .int r4.toInt32), (6, .int v2), (0, .ref (α.1 7))]) hx hb dX7_find_79 hl (by decide) rfl (fun ls hl => ?_)
          refine lv_goto (tgt := 26) hx hb dX7_find_81 (by decide) ?_
          exact ih26 σ3 r4.toInt32 v6 v7 hF H locs ls hP hS (lv_sub hl [4, 2, 1, 0] rfl)
        · replace hF := hF.2 h5
          refine lv_aload_n hx hb dX7_find_58 rfl (lv_at hl 2 rfl) ?_
          refine lv_iload hx hb dX7_find_59 (lv_at hl 4 rfl) ?_
          refine va_put (D := D) (ci := 7) (v := .int x5) (ty := .int) (C := RX7) (T := TX7) (N := 13) hx hb hts in_X7 tyX7 tyX7_ok nmX7 hown hK hP (hD.to (sm_wX_m _ _)) hS 7 (sm_gX7 σ3 α) rfl 12 (by decide) k_1 (fun _ h9 => h9) rfl (by decide +kernel) rfl rfl (Nat.le_of_ble_eq_true rfl) dX7_find_61 (fun H locs hP _ hS => ?_)
          rw [sm_iX28] at hP
          obtain ⟨σ9, eσ9⟩ : ∃ x : sm_S, x = sm_i σ3 28 x5 := ⟨_, rfl⟩
          replace hF := hF σ9 eσ9
          rw [← eσ9] at hP
          refine lv_iload hx hb dX7_find_64 (lv_at hl 1 rfl) ?_
          exact W.iret (v := v2) hx hb hr (fun t ht hW => ⟨⟨v2, σ9, rfl, hF, (by unfold sm_B; rw [ht]; exact hP)⟩, hS.F ht⟩) hS.2.2 dX7_find_66
  unfold mp_X7_find at hF
  revert hP hS
  generalize hLo : ([] : List Loc) = locs
  suffices h9 : ∀ (H : Heap) (locs : List Loc), va_P D vwCl (sm_wX σ α) H → va_S A s.heap H locs → W p l e (headSpec wp_X7_find { frames := 2, cells := 0, slots := 0, locals := 50 }).room s m ([.ref (α.1 7), .int p1, .int p2] : List Value).toArray below meth c H locs 0 0 (MQ below (va_Qi K (sm_B sm_wX D α) A) ([.ref (α.1 7), .int p1, .int p2] : List Value).toArray s 0 0 A) (F0 m 0 ls []) from fun hP hS => h9 s.heap locs hP hS
  intro H locs hP hS
  refine lv_iload_n hx hb dX7_find_0 rfl (lv_at hl 1 rfl) ?_
  refine lv_istore_n (lv' := [(3, .int p1), (0, .ref (α.1 7)), (1, .int p1), (2, .int p2)]) hx hb dX7_find_1 rfl hl (by decide) rfl (fun ls hl => ?_)
  refine lv_iload_n hx hb dX7_find_2 rfl (lv_at hl 3 rfl) ?_
  refine lv_istore (lv' := [(4, .int p2), (3, .int p1), (0, .ref (α.1 7)), (1, .int p1), (2, .int p2)]) hx hb dX7_find_3 hl (by decide) rfl (fun ls hl => ?_)
  refine lv_aload_n hx hb dX7_find_5 rfl (lv_at hl 2 rfl) ?_
  refine lv_iconst (v := 0) hx hb dX7_find_6 (by decide) ?_
  refine va_put (D := D) (ci := 7) (v := .int 0) (ty := .int) (C := RX7) (T := TX7) (N := 13) hx hb hts in_X7 tyX7 tyX7_ok nmX7 hown hK hP (hD.to (sm_wX_m _ _)) hS 7 (sm_gX7 σ α) rfl 12 (by decide) k_1 (fun _ h9 => h9) rfl (by decide +kernel) rfl rfl (Nat.le_of_ble_eq_true rfl) dX7_find_7 (fun H locs hP _ hS => ?_)
  rw [sm_iX28] at hP
  obtain ⟨σ11, eσ11⟩ : ∃ x : sm_S, x = sm_i σ 28 0 := ⟨_, rfl⟩
  replace hF := hF σ11 eσ11
  rw [← eσ11] at hP
  refine lv_aload_n hx hb dX7_find_10 rfl (lv_at hl 2 rfl) ?_
  refine va_get (D := D) (ci := 7) (v := .ref (α.1 1)) (C := RX7) (T := TX7) (N := 13) hx hb hts in_X7 hown hK hP 7 (sm_gX7 σ11 α) rfl 3 (by decide) k_0 (fun _ h9 => h9) rfl dX7_find_11 ?_
  refine lv_iload_n hx hb dX7_find_14 rfl (lv_at hl 3 rfl) ?_
  refine sm_vl (As := [.int p1]) (rest := []) hP hK hD hE hS hA ⟨hx, hb, hml, hown, hts⟩ hl.1 (c_X1_look l D H.size t0 σ11 α p1 _ hF) (cwV 1 hts wg_X7_find_X1_look_120 rfl rfl rfl (by decide +kernel) ⟨Nat.le_of_ble_eq_true rfl, Nat.le_of_ble_eq_true rfl⟩) (va_recv hK hP (ci := 1) (q0 := 1) rfl (sm_gX1 σ11 α)) rfl rfl (Nat.le_of_ble_eq_true rfl) dX7_find_15 ⟨Nat.zero_le _, Nat.zero_le _⟩ (fun r13 σ12 H locs hF hP hS => ?_)
  refine sm_si (As := [.long r13]) (rest := []) hP hK hD hE hS hA ⟨hx, hb, hml, hown, hts⟩ hl.1 (c_X1_rowLength l D H.size t0 σ12 α r13 _ hF) (va_cwS 1 hts wg_X7_find_X1_rowLength_213 rfl rfl rfl (by decide +kernel) ⟨Nat.le_of_ble_eq_true rfl, Nat.le_of_ble_eq_true rfl⟩) rfl rfl (Nat.le_of_ble_eq_true rfl) dX7_find_18 ⟨Nat.zero_le _, Nat.zero_le _⟩ (fun r15 σ14 H locs hF hP hS => ?_)
  refine sm_si (As := [.int r15]) (rest := []) hP hK hD hE hS hA ⟨hx, hb, hml, hown, hts⟩ hl.1 (c_X1_span l D H.size t0 σ14 α r15 _ hF) (va_cwS 1 hts wg_X7_find_X1_span_222 rfl rfl rfl (by decide +kernel) ⟨Nat.le_of_ble_eq_true rfl, Nat.le_of_ble_eq_true rfl⟩) rfl rfl (Nat.le_of_ble_eq_true rfl) dX7_find_21 ⟨Nat.zero_le _, Nat.zero_le _⟩ (fun r17 σ16 H locs hF hP hS => ?_)
  refine lv_istore (lv' := [(5, .int r17), (4, .int p2), (3, .int p1), (0, .ref (α.1 7)), (1, .int p1), (2, .int p2)]) hx hb dX7_find_24 hl (by decide) rfl (fun ls hl => ?_)
  obtain ⟨n26, hF⟩ := hF
  exact B26 n26 σ16 p1 p2 r17 hF H locs ls hP hS (lv_sub hl [3, 2, 1, 0] rfl)
theorem dX7_fetch_0 : decode cX7_fetch 0 = .ok (.aload_n 0, 1) := by decide +kernel
theorem dX7_fetch_1 : decode cX7_fetch 1 = .ok (.iload_n 1, 1) := by decide +kernel
theorem dX7_fetch_2 : decode cX7_fetch 2 = .ok (.iload_n 2, 1) := by decide +kernel
theorem dX7_fetch_3 : decode cX7_fetch 3 = .ok (.invokevirtual 232, 3) := by decide +kernel
theorem dX7_fetch_6 : decode cX7_fetch 6 = .ok (.istore_n 3, 1) := by decide +kernel
theorem dX7_fetch_7 : decode cX7_fetch 7 = .ok (.aload_n 0, 1) := by decide +kernel
theorem dX7_fetch_8 : decode cX7_fetch 8 = .ok (.getfield 27, 3) := by decide +kernel
theorem dX7_fetch_11 : decode cX7_fetch 11 = .ok (.iload_n 1, 1) := by decide +kernel
theorem dX7_fetch_12 : decode cX7_fetch 12 = .ok (.invokevirtual 120, 3) := by decide +kernel
theorem dX7_fetch_15 : decode cX7_fetch 15 = .ok (.invokestatic 235, 3) := by decide +kernel
theorem dX7_fetch_18 : decode cX7_fetch 18 = .ok (.ifCond .ne 7, 3) := by decide +kernel
theorem dX7_fetch_21 : decode cX7_fetch 21 = .ok (.lconst 0, 1) := by decide +kernel
theorem dX7_fetch_22 : decode cX7_fetch 22 = .ok (.goto 6, 3) := by decide +kernel
theorem dX7_fetch_25 : decode cX7_fetch 25 = .ok (.ldc2_w 153, 3) := by decide +kernel
theorem dX7_fetch_28 : decode cX7_fetch 28 = .ok (.lstore 4, 2) := by decide +kernel
theorem dX7_fetch_30 : decode cX7_fetch 30 = .ok (.aload_n 0, 1) := by decide +kernel
theorem dX7_fetch_31 : decode cX7_fetch 31 = .ok (.dup, 1) := by decide +kernel
theorem dX7_fetch_32 : decode cX7_fetch 32 = .ok (.getfield 46, 3) := by decide +kernel
theorem dX7_fetch_35 : decode cX7_fetch 35 = .ok (.iconst 2, 1) := by decide +kernel
theorem dX7_fetch_36 : decode cX7_fetch 36 = .ok (.isub, 1) := by decide +kernel
theorem dX7_fetch_37 : decode cX7_fetch 37 = .ok (.putfield 46, 3) := by decide +kernel
theorem dX7_fetch_40 : decode cX7_fetch 40 = .ok (.aload_n 0, 1) := by decide +kernel
theorem dX7_fetch_41 : decode cX7_fetch 41 = .ok (.aload_n 0, 1) := by decide +kernel
theorem dX7_fetch_42 : decode cX7_fetch 42 = .ok (.getfield 229, 3) := by decide +kernel
theorem dX7_fetch_45 : decode cX7_fetch 45 = .ok (.ifCond .ne 14, 3) := by decide +kernel
theorem dX7_fetch_48 : decode cX7_fetch 48 = .ok (.aload_n 0, 1) := by decide +kernel
theorem dX7_fetch_49 : decode cX7_fetch 49 = .ok (.getfield 27, 3) := by decide +kernel
theorem dX7_fetch_52 : decode cX7_fetch 52 = .ok (.iload_n 3, 1) := by decide +kernel
theorem dX7_fetch_53 : decode cX7_fetch 53 = .ok (.invokevirtual 179, 3) := by decide +kernel
theorem dX7_fetch_56 : decode cX7_fetch 56 = .ok (.goto 5, 3) := by decide +kernel
theorem dX7_fetch_59 : decode cX7_fetch 59 = .ok (.lload 4, 2) := by decide +kernel
theorem dX7_fetch_61 : decode cX7_fetch 61 = .ok (.invokevirtual 143, 3) := by decide +kernel
theorem dX7_fetch_64 : decode cX7_fetch 64 = .ok (.ireturn, 1) := by decide +kernel
def wp_X7_fetch : List Cond := .code yX7_fetch cX7_fetch 6 (some .int) :: (((((([.fieldLink RX7 46 "SteadyMachine$Runner" "height" "I", .fieldLink RX7 229 "SteadyMachine$Runner" "lacking" "I", .fieldLink RX7 27 "SteadyMachine$Runner" "heap" "LSteadyMachine$Heap;", .constantLong RX7 153 (4294967296)] ++ (wsV RX7 143 RX7 yX7_push wp_X7_push)) ++ (wsV RX7 179 RX1 yX1_read wp_X1_read)) ++ (wsV RX7 232 RX7 yX7_find wp_X7_find)) ++ (wsV RX7 120 RX1 yX1_look wp_X1_look)) ++ (va_wsS RX7 235 yX1_rowItem wp_X1_rowItem)) ++ wsX70)
theorem wq_X7_fetch : wp_X7_fetch.all goodWord = true := wa_c rfl (wa_a (wa_a (wa_a (wa_a (wa_a (wa_a (by decide +kernel) (wa_V wq_X7_push)) (wa_V wq_X1_read)) (wa_V wq_X7_find)) (wa_V wq_X1_look)) (wa_S wq_X1_rowItem)) uq_X7)
theorem wt_X7_fetch : GoodIn lw_tbl wp_X7_fetch := wm_c (List.mem_of_getElem? (i := 1052) (by decide +kernel)) rfl (wm_a (wm_a (wm_a (wm_a (wm_a (wm_a (goodIn_r _ [526, 527, 515, 987] (by decide +kernel) (by decide +kernel)) (wm_a (goodIn_r _ [983, 985, 47, 145] (by decide +kernel) (by decide +kernel)) wt_X7_push)) (wm_a (goodIn_r _ [1019, 907, 908, 144] (by decide +kernel) (by decide +kernel)) wt_X1_read)) (wm_a (goodIn_r _ [1053, 1055, 59, 145] (by decide +kernel) (by decide +kernel)) wt_X7_find)) (wm_a (goodIn_r _ [936, 911, 912, 144] (by decide +kernel) (by decide +kernel)) wt_X1_look)) (wm_a (goodIn_r _ [1057, 1058, 144] (by decide +kernel) (by decide +kernel)) wt_X1_rowItem)) ut_X7)
theorem wg_X7_fetch_X7_push_143 : GoodIn wp_X7_fetch (wsV RX7 143 RX7 yX7_push wp_X7_push) := goodIn_sub (fun w h => List.mem_cons_of_mem _ (List.mem_append_left _ (List.mem_append_left _ (List.mem_append_left _ (List.mem_append_left _ (List.mem_append_left _ (List.mem_append_right _ h))))))) (wa_V wq_X7_push)
theorem wg_X7_fetch_X1_read_179 : GoodIn wp_X7_fetch (wsV RX7 179 RX1 yX1_read wp_X1_read) := goodIn_sub (fun w h => List.mem_cons_of_mem _ (List.mem_append_left _ (List.mem_append_left _ (List.mem_append_left _ (List.mem_append_left _ (List.mem_append_right _ h)))))) (wa_V wq_X1_read)
theorem wg_X7_fetch_X7_find_232 : GoodIn wp_X7_fetch (wsV RX7 232 RX7 yX7_find wp_X7_find) := goodIn_sub (fun w h => List.mem_cons_of_mem _ (List.mem_append_left _ (List.mem_append_left _ (List.mem_append_left _ (List.mem_append_right _ h))))) (wa_V wq_X7_find)
theorem wg_X7_fetch_X1_look_120 : GoodIn wp_X7_fetch (wsV RX7 120 RX1 yX1_look wp_X1_look) := goodIn_sub (fun w h => List.mem_cons_of_mem _ (List.mem_append_left _ (List.mem_append_left _ (List.mem_append_right _ h)))) (wa_V wq_X1_look)
theorem wg_X7_fetch_X1_rowItem_235 : GoodIn wp_X7_fetch (va_wsS RX7 235 yX1_rowItem wp_X1_rowItem) := goodIn_sub (fun w h => List.mem_cons_of_mem _ (List.mem_append_left _ (List.mem_append_right _ h))) (wa_S wq_X1_rowItem)
theorem wi_X7_fetch_X7 : ∀ w ∈ wsX70, w ∈ wp_X7_fetch := fun w h => List.mem_cons_of_mem _ (List.mem_append_right _ h)
set_option maxHeartbeats 4000000 in
set_option maxRecDepth 100000 in
theorem c_X7_fetch (l : Launch) (D : va_G) (sz t0 : Nat) (σ : sm_S) (α : sm_A) (p1 : Int32) (p2 : Int32) (K : Int32 → sm_S → Prop) (hF : mp_X7_fetch σ p1 p2 K) : Met l yX7_fetch wp_X7_fetch { frames := 3, cells := 0, slots := 0, locals := 76 } (sm_P sm_wX sm_tX 37 D sz t0 σ α [.ref (α.1 7), .int p1, .int p2]) (va_Qi K (sm_B sm_wX D α) (sm_a α 37 sz)) 0 0 (sm_a α 37 sz) := by
  refine Met.ofW (cc := cX7_fetch) (maxL := 6) (ret := (some .int)) (by decide) rfl ?_
  intro p e s m args below meth c s₁ B hml hv
  obtain ⟨rfl, hsz, hP, hK, hD0, hE⟩ := hv
  have hx := B.exec
  have hb := B.bytes
  have hr := B.returns
  have hts := atoms_spec (ws := wp_X7_fetch) B.pre
  have hown : s.vm.findClass RX7 = some m.cls := findClass_of_methodNamed B.named
  have hlocks := B.notSynchronized
  subst hsz
  have hD : sm_D (sm_a α 37 s.heap.size) α 37 := hD0.own
  have hA : ∀ q : Nat, s.heap.size ≤ q → sm_a α 37 s.heap.size q := fun q h => Or.inr h
  generalize hAe : sm_a α 37 s.heap.size = A at hD hA hE ⊢
  have hS : va_S A s.heap s.heap [] := va_S.rf
  have in_X7 : ∀ w ∈ wsX70, w ∈ wp_X7_fetch := wi_X7_fetch_X7
  have k_0 := hts (.fieldLink RX7 46 "SteadyMachine$Runner" "height" "I") (by decide +kernel)
  have k_1 := hts (.fieldLink RX7 229 "SteadyMachine$Runner" "lacking" "I") (by decide +kernel)
  have k_2 := hts (.fieldLink RX7 27 "SteadyMachine$Runner" "heap" "LSteadyMachine$Heap;") (by decide +kernel)
  have k_3 := hts (.constantLong RX7 153 (4294967296)) (by decide +kernel)
  have hl := lv_entry ([.ref (α.1 7), .int p1, .int p2]) (n := 6) (Nat.le_of_ble_eq_true rfl)
  rw [lg_entry_eq]
  generalize (lg_sl ([.ref (α.1 7), .int p1, .int p2]) ++ List.replicate (6 - (lg_sl ([.ref (α.1 7), .int p1, .int p2])).length) Slot.unset).toArray = ls at hl ⊢
  have hl : lv_has ls 6 [(0, .ref (α.1 7)), (1, .int p1), (2, .int p2)] := hl
  have B61 : ∀ (σ : sm_S) (y1 : Int64), mp_X7_fetch_61 K σ y1 → sm_J p l e (headSpec wp_X7_fetch { frames := 3, cells := 0, slots := 0, locals := 76 }).room s m ([.ref (α.1 7), .int p1, .int p2] : List Value).toArray below meth c (MQ below (va_Qi K (sm_B sm_wX D α) A) ([.ref (α.1 7), .int p1, .int p2] : List Value).toArray s 0 0 A) D A 6 (sm_wX σ α) 61 [] [.long y1, .ref (α.1 7)] := by
    intro σ y1 hF H locs ls hP hS hl
    unfold mp_X7_fetch_61 at hF
    refine sm_vi (As := [.long y1]) (rest := []) hP hK hD hE hS hA ⟨hx, hb, hml, hown, hts⟩ hl.1 (c_X7_push l D H.size t0 σ α y1 _ hF) (cwV 1 hts wg_X7_fetch_X7_push_143 rfl rfl rfl (by decide +kernel) ⟨Nat.le_of_ble_eq_true rfl, Nat.le_of_ble_eq_true rfl⟩) (va_recv hK hP (ci := 7) (q0 := 7) rfl (sm_gX7 σ α)) rfl rfl (Nat.le_of_ble_eq_true rfl) dX7_fetch_61 ⟨Nat.zero_le _, Nat.zero_le _⟩ (fun r2 σ1 H locs hF hP hS => ?_)
    exact W.iret (v := r2) hx hb hr (fun t ht hW => ⟨⟨r2, σ1, rfl, hF, (by unfold sm_B; rw [ht]; exact hP)⟩, hS.F ht⟩) hS.2.2 dX7_fetch_64
  have B28 : ∀ (σ : sm_S) (x3 : Int32) (y0 : Int64), mp_X7_fetch_28 K σ x3 y0 → sm_J p l e (headSpec wp_X7_fetch { frames := 3, cells := 0, slots := 0, locals := 76 }).room s m ([.ref (α.1 7), .int p1, .int p2] : List Value).toArray below meth c (MQ below (va_Qi K (sm_B sm_wX D α) A) ([.ref (α.1 7), .int p1, .int p2] : List Value).toArray s 0 0 A) D A 6 (sm_wX σ α) 28 [(0, .ref (α.1 7)), (3, .int x3)] [.long y0] := by
    intro σ x3 y0 hF H locs ls hP hS hl
    unfold mp_X7_fetch_28 at hF
    refine lv_lstore (lv' := [(4, .long y0), (0, .ref (α.1 7)), (3, .int x3)]) hx hb dX7_fetch_28 hl (by decide) rfl (fun ls hl => ?_)
    refine lv_aload_n hx hb dX7_fetch_30 rfl (lv_at hl 1 rfl) ?_
    refine lv_dup hx hb dX7_fetch_31 rfl ?_
    refine va_get (D := D) (ci := 7) (v := .int (σ.1 27)) (C := RX7) (T := TX7) (N := 13) hx hb hts in_X7 hown hK hP 7 (sm_gX7 σ α) rfl 11 (by decide) k_0 (fun _ h9 => h9) rfl dX7_fetch_32 ?_
    refine lv_iconst (v := 2) hx hb dX7_fetch_35 (by decide) ?_
    refine lv_isub hx hb dX7_fetch_36 ?_
    refine va_put (D := D) (ci := 7) (v := .int ((σ.1 27) - 2)) (ty := .int) (C := RX7) (T := TX7) (N := 13) hx hb hts in_X7 tyX7 tyX7_ok nmX7 hown hK hP (hD.to (sm_wX_m _ _)) hS 7 (sm_gX7 σ α) rfl 11 (by decide) k_0 (fun _ h9 => h9) rfl (by decide +kernel) rfl rfl (Nat.le_of_ble_eq_true rfl) dX7_fetch_37 (fun H locs hP _ hS => ?_)
    rw [sm_iX27] at hP
    obtain ⟨σ3, eσ3⟩ : ∃ x : sm_S, x = sm_i σ 27 ((σ.1 27) - 2) := ⟨_, rfl⟩
    replace hF := hF σ3 eσ3
    rw [← eσ3] at hP
    refine lv_aload_n hx hb dX7_fetch_40 rfl (lv_at hl 1 rfl) ?_
    refine lv_aload_n hx hb dX7_fetch_41 rfl (lv_at hl 1 rfl) ?_
    refine va_get (D := D) (ci := 7) (v := .int (σ3.1 28)) (C := RX7) (T := TX7) (N := 13) hx hb hts in_X7 hown hK hP 7 (sm_gX7 σ3 α) rfl 12 (by decide) k_1 (fun _ h9 => h9) rfl dX7_fetch_42 ?_
    refine lv_if_ne (tgt := 59) hx hb dX7_fetch_45 (by decide) (fun h4 => ?_) (fun h4 => ?_)
    · replace hF := hF.1 h4
      refine lv_lload hx hb dX7_fetch_59 (lv_at hl 0 rfl) ?_
      exact B61 σ3 y0 hF H locs ls hP hS (lv_sub hl [] rfl)
    · replace hF := hF.2 h4
      refine lv_aload_n hx hb dX7_fetch_48 rfl (lv_at hl 1 rfl) ?_
      refine va_get (D := D) (ci := 7) (v := .ref (α.1 1)) (C := RX7) (T := TX7) (N := 13) hx hb hts in_X7 hown hK hP 7 (sm_gX7 σ3 α) rfl 3 (by decide) k_2 (fun _ h9 => h9) rfl dX7_fetch_49 ?_
      refine lv_iload_n hx hb dX7_fetch_52 rfl (lv_at hl 2 rfl) ?_
      refine sm_vl (As := [.int x3]) (rest := [.ref (α.1 7)]) hP hK hD hE hS hA ⟨hx, hb, hml, hown, hts⟩ hl.1 (c_X1_read l D H.size t0 σ3 α x3 _ hF) (cwV 1 hts wg_X7_fetch_X1_read_179 rfl rfl rfl (by decide +kernel) ⟨Nat.le_of_ble_eq_true rfl, Nat.le_of_ble_eq_true rfl⟩) (va_recv hK hP (ci := 1) (q0 := 1) rfl (sm_gX1 σ3 α)) rfl rfl (Nat.le_of_ble_eq_true rfl) dX7_fetch_53 ⟨Nat.zero_le _, Nat.zero_le _⟩ (fun r6 σ5 H locs hF hP hS => ?_)
      refine lv_goto (tgt := 61) hx hb dX7_fetch_56 (by decide) ?_
      exact B61 σ5 r6 hF H locs ls hP hS (lv_sub hl [] rfl)
  unfold mp_X7_fetch at hF
  revert hP hS
  generalize hLo : ([] : List Loc) = locs
  suffices h9 : ∀ (H : Heap) (locs : List Loc), va_P D vwCl (sm_wX σ α) H → va_S A s.heap H locs → W p l e (headSpec wp_X7_fetch { frames := 3, cells := 0, slots := 0, locals := 76 }).room s m ([.ref (α.1 7), .int p1, .int p2] : List Value).toArray below meth c H locs 0 0 (MQ below (va_Qi K (sm_B sm_wX D α) A) ([.ref (α.1 7), .int p1, .int p2] : List Value).toArray s 0 0 A) (F0 m 0 ls []) from fun hP hS => h9 s.heap locs hP hS
  intro H locs hP hS
  refine lv_aload_n hx hb dX7_fetch_0 rfl (lv_at hl 0 rfl) ?_
  refine lv_iload_n hx hb dX7_fetch_1 rfl (lv_at hl 1 rfl) ?_
  refine lv_iload_n hx hb dX7_fetch_2 rfl (lv_at hl 2 rfl) ?_
  refine sm_vi (As := [.int p1, .int p2]) (rest := []) hP hK hD hE hS hA ⟨hx, hb, hml, hown, hts⟩ hl.1 (c_X7_find l D H.size t0 σ α p1 p2 _ hF) (cwV 2 hts wg_X7_fetch_X7_find_232 rfl rfl rfl (by decide +kernel) ⟨Nat.le_of_ble_eq_true rfl, Nat.le_of_ble_eq_true rfl⟩) (va_recv hK hP (ci := 7) (q0 := 7) rfl (sm_gX7 σ α)) rfl rfl (Nat.le_of_ble_eq_true rfl) dX7_fetch_3 ⟨Nat.zero_le _, Nat.zero_le _⟩ (fun r8 σ7 H locs hF hP hS => ?_)
  refine lv_istore_n (lv' := [(3, .int r8), (0, .ref (α.1 7)), (1, .int p1), (2, .int p2)]) hx hb dX7_fetch_6 rfl hl (by decide) rfl (fun ls hl => ?_)
  refine lv_aload_n hx hb dX7_fetch_7 rfl (lv_at hl 1 rfl) ?_
  refine va_get (D := D) (ci := 7) (v := .ref (α.1 1)) (C := RX7) (T := TX7) (N := 13) hx hb hts in_X7 hown hK hP 7 (sm_gX7 σ7 α) rfl 3 (by decide) k_2 (fun _ h9 => h9) rfl dX7_fetch_8 ?_
  refine lv_iload_n hx hb dX7_fetch_11 rfl (lv_at hl 2 rfl) ?_
  refine sm_vl (As := [.int p1]) (rest := []) hP hK hD hE hS hA ⟨hx, hb, hml, hown, hts⟩ hl.1 (c_X1_look l D H.size t0 σ7 α p1 _ hF) (cwV 1 hts wg_X7_fetch_X1_look_120 rfl rfl rfl (by decide +kernel) ⟨Nat.le_of_ble_eq_true rfl, Nat.le_of_ble_eq_true rfl⟩) (va_recv hK hP (ci := 1) (q0 := 1) rfl (sm_gX1 σ7 α)) rfl rfl (Nat.le_of_ble_eq_true rfl) dX7_fetch_12 ⟨Nat.zero_le _, Nat.zero_le _⟩ (fun r10 σ9 H locs hF hP hS => ?_)
  refine sm_si (As := [.long r10]) (rest := []) hP hK hD hE hS hA ⟨hx, hb, hml, hown, hts⟩ hl.1 (c_X1_rowItem l D H.size t0 σ9 α r10 _ hF) (va_cwS 1 hts wg_X7_fetch_X1_rowItem_235 rfl rfl rfl (by decide +kernel) ⟨Nat.le_of_ble_eq_true rfl, Nat.le_of_ble_eq_true rfl⟩) rfl rfl (Nat.le_of_ble_eq_true rfl) dX7_fetch_15 ⟨Nat.zero_le _, Nat.zero_le _⟩ (fun r12 σ11 H locs hF hP hS => ?_)
  refine lv_if_ne (tgt := 25) hx hb dX7_fetch_18 (by decide) (fun h13 => ?_) (fun h13 => ?_)
  · replace hF := hF.1 h13
    refine lv_ldc2 (v := 4294967296) hx hb hown k_3 dX7_fetch_25 ?_
    exact B28 σ11 r8 4294967296 hF H locs ls hP hS (lv_sub hl [1, 0] rfl)
  · replace hF := hF.2 h13
    refine lv_lconst (v := 0) hx hb dX7_fetch_21 (by decide) ?_
    refine lv_goto (tgt := 28) hx hb dX7_fetch_22 (by decide) ?_
    exact B28 σ11 r8 0 hF H locs ls hP hS (lv_sub hl [1, 0] rfl)
theorem dX7_fill_0 : decode cX7_fill 0 = .ok (.aload_n 0, 1) := by decide +kernel
theorem dX7_fill_1 : decode cX7_fill 1 = .ok (.getfield 27, 3) := by decide +kernel
theorem dX7_fill_4 : decode cX7_fill 4 = .ok (.iload_n 1, 1) := by decide +kernel
theorem dX7_fill_5 : decode cX7_fill 5 = .ok (.lload_n 2, 1) := by decide +kernel
theorem dX7_fill_6 : decode cX7_fill 6 = .ok (.invokevirtual 110, 3) := by decide +kernel
theorem dX7_fill_9 : decode cX7_fill 9 = .ok (.iconst 1, 1) := by decide +kernel
theorem dX7_fill_10 : decode cX7_fill 10 = .ok (.istore 6, 2) := by decide +kernel
theorem dX7_fill_12 : decode cX7_fill 12 = .ok (.iload 6, 2) := by decide +kernel
theorem dX7_fill_14 : decode cX7_fill 14 = .ok (.bipush 16, 2) := by decide +kernel
theorem dX7_fill_16 : decode cX7_fill 16 = .ok (.if_icmp .ge 22, 3) := by decide +kernel
theorem dX7_fill_19 : decode cX7_fill 19 = .ok (.aload_n 0, 1) := by decide +kernel
theorem dX7_fill_20 : decode cX7_fill 20 = .ok (.getfield 27, 3) := by decide +kernel
theorem dX7_fill_23 : decode cX7_fill 23 = .ok (.iload_n 1, 1) := by decide +kernel
theorem dX7_fill_24 : decode cX7_fill 24 = .ok (.iload 6, 2) := by decide +kernel
theorem dX7_fill_26 : decode cX7_fill 26 = .ok (.iadd, 1) := by decide +kernel
theorem dX7_fill_27 : decode cX7_fill 27 = .ok (.lload 4, 2) := by decide +kernel
theorem dX7_fill_29 : decode cX7_fill 29 = .ok (.invokevirtual 110, 3) := by decide +kernel
theorem dX7_fill_32 : decode cX7_fill 32 = .ok (.iinc 6 1, 3) := by decide +kernel
theorem dX7_fill_35 : decode cX7_fill 35 = .ok (.goto (-23), 3) := by decide +kernel
theorem dX7_fill_38 : decode cX7_fill 38 = .ok (.return_, 1) := by decide +kernel
def wp_X7_fill : List Cond := .code yX7_fill cX7_fill 7 none :: (([.fieldLink RX7 27 "SteadyMachine$Runner" "heap" "LSteadyMachine$Heap;"] ++ (wsV RX7 110 RX1 yX1_put wp_X1_put)) ++ wsX70)
theorem wq_X7_fill : wp_X7_fill.all goodWord = true := wa_c rfl (wa_a (wa_a (by decide +kernel) (wa_V wq_X1_put)) uq_X7)
theorem wt_X7_fill : GoodIn lw_tbl wp_X7_fill := wm_c (List.mem_of_getElem? (i := 1045) (by decide +kernel)) rfl (wm_a (wm_a (goodIn_r _ [515] (by decide +kernel) (by decide +kernel)) (wm_a (goodIn_r _ [931, 923, 924, 144] (by decide +kernel) (by decide +kernel)) wt_X1_put)) ut_X7)
theorem wg_X7_fill_X1_put_110 : GoodIn wp_X7_fill (wsV RX7 110 RX1 yX1_put wp_X1_put) := goodIn_sub (fun w h => List.mem_cons_of_mem _ (List.mem_append_left _ (List.mem_append_right _ h))) (wa_V wq_X1_put)
theorem wi_X7_fill_X7 : ∀ w ∈ wsX70, w ∈ wp_X7_fill := fun w h => List.mem_cons_of_mem _ (List.mem_append_right _ h)
set_option maxHeartbeats 4000000 in
set_option maxRecDepth 100000 in
theorem c_X7_fill (l : Launch) (D : va_G) (sz t0 : Nat) (σ : sm_S) (α : sm_A) (p1 : Int32) (p2 : Int64) (p3 : Int64) (K : sm_S → Prop) (hF : mp_X7_fill σ p1 p2 p3 K) : Met l yX7_fill wp_X7_fill { frames := 1, cells := 0, slots := 0, locals := 23 } (sm_P sm_wX sm_tX 37 D sz t0 σ α [.ref (α.1 7), .int p1, .long p2, .long p3]) (va_Qv K (sm_B sm_wX D α) (sm_a α 37 sz)) 0 0 (sm_a α 37 sz) := by
  refine Met.ofW (cc := cX7_fill) (maxL := 7) (ret := none) (by decide) rfl ?_
  intro p e s m args below meth c s₁ B hml hv
  obtain ⟨rfl, hsz, hP, hK, hD0, hE⟩ := hv
  have hx := B.exec
  have hb := B.bytes
  have hr := B.returns
  have hts := atoms_spec (ws := wp_X7_fill) B.pre
  have hown : s.vm.findClass RX7 = some m.cls := findClass_of_methodNamed B.named
  have hlocks := B.notSynchronized
  subst hsz
  have hD : sm_D (sm_a α 37 s.heap.size) α 37 := hD0.own
  have hA : ∀ q : Nat, s.heap.size ≤ q → sm_a α 37 s.heap.size q := fun q h => Or.inr h
  generalize hAe : sm_a α 37 s.heap.size = A at hD hA hE ⊢
  have hS : va_S A s.heap s.heap [] := va_S.rf
  have in_X7 : ∀ w ∈ wsX70, w ∈ wp_X7_fill := wi_X7_fill_X7
  have k_0 := hts (.fieldLink RX7 27 "SteadyMachine$Runner" "heap" "LSteadyMachine$Heap;") (by decide +kernel)
  have hl := lv_entry ([.ref (α.1 7), .int p1, .long p2, .long p3]) (n := 7) (Nat.le_of_ble_eq_true rfl)
  rw [lg_entry_eq]
  generalize (lg_sl ([.ref (α.1 7), .int p1, .long p2, .long p3]) ++ List.replicate (7 - (lg_sl ([.ref (α.1 7), .int p1, .long p2, .long p3])).length) Slot.unset).toArray = ls at hl ⊢
  have hl : lv_has ls 7 [(0, .ref (α.1 7)), (1, .int p1), (2, .long p2), (4, .long p3)] := hl
  have B12 : ∀ (n : Nat) (σ : sm_S) (x1 : Int32) (x4 : Int64) (x6 : Int32), mp_X7_fill_12 K n σ x1 x4 x6 → sm_J p l e (headSpec wp_X7_fill { frames := 1, cells := 0, slots := 0, locals := 23 }).room s m ([.ref (α.1 7), .int p1, .long p2, .long p3] : List Value).toArray below meth c (MQ below (va_Qv K (sm_B sm_wX D α) A) ([.ref (α.1 7), .int p1, .long p2, .long p3] : List Value).toArray s 0 0 A) D A 7 (sm_wX σ α) 12 [(0, .ref (α.1 7)), (1, .int x1), (4, .long x4), (6, .int x6)] [] := by
    intro n12
    induction n12 with
    | zero =>
      intro σ x1 x4 x6 hF
      exact hF.elim
    | succ n12 ih12 =>
      intro σ x1 x4 x6 hF H locs ls hP hS hl
      unfold mp_X7_fill_12 at hF
      refine lv_iload hx hb dX7_fill_12 (lv_at hl 3 rfl) ?_
      refine lv_bipush (v := 16) hx hb dX7_fill_14 (by decide) ?_
      refine lv_icmp_ge (tgt := 38) hx hb dX7_fill_16 (by decide) (fun h1 => ?_) (fun h1 => ?_)
      · replace hF := hF.1 h1
        exact W.vret hx hb hr (fun t ht hW => ⟨⟨σ, rfl, hF, (by unfold sm_B; rw [ht]; exact hP)⟩, hS.F ht⟩) hS.2.2 dX7_fill_38
      · replace hF := hF.2 h1
        refine lv_aload_n hx hb dX7_fill_19 rfl (lv_at hl 0 rfl) ?_
        refine va_get (D := D) (ci := 7) (v := .ref (α.1 1)) (C := RX7) (T := TX7) (N := 13) hx hb hts in_X7 hown hK hP 7 (sm_gX7 σ α) rfl 3 (by decide) k_0 (fun _ h9 => h9) rfl dX7_fill_20 ?_
        refine lv_iload_n hx hb dX7_fill_23 rfl (lv_at hl 1 rfl) ?_
        refine lv_iload hx hb dX7_fill_24 (lv_at hl 3 rfl) ?_
        refine lv_iadd hx hb dX7_fill_26 ?_
        refine lv_lload hx hb dX7_fill_27 (lv_at hl 2 rfl) ?_
        refine sm_vv (As := [.int (x1 + x6), .long x4]) (rest := []) hP hK hD hE hS hA ⟨hx, hb, hml, hown, hts⟩ hl.1 (c_X1_put l D H.size t0 σ α (x1 + x6) x4 _ hF) (cwV 2 hts wg_X7_fill_X1_put_110 rfl rfl rfl (by decide +kernel) ⟨Nat.le_of_ble_eq_true rfl, Nat.le_of_ble_eq_true rfl⟩) (va_recv hK hP (ci := 1) (q0 := 1) rfl (sm_gX1 σ α)) rfl rfl (Nat.le_of_ble_eq_true rfl) dX7_fill_29 ⟨Nat.zero_le _, Nat.zero_le _⟩ (fun σ2 H locs hF hP hS => ?_)
        obtain ⟨v3, ev3⟩ : ∃ y : Int32, y = x6 + 1 := ⟨_, rfl⟩
        replace hF := hF v3 ev3
        refine lv_iinc (v := v3) (lv' := [(6, .int v3), (0, .ref (α.1 7)), (1, .int x1), (4, .long x4)]) hx hb dX7_fill_32 hl (k := 3) rfl (by rw [ev3]; rfl) (by decide) rfl (fun ls hl => ?_)
        refine lv_goto (tgt := 12) hx hb dX7_fill_35 (by decide) ?_
        exact ih12 σ2 x1 x4 v3 hF H locs ls hP hS (lv_sub hl [1, 2, 3, 0] rfl)
  unfold mp_X7_fill at hF
  revert hP hS
  generalize hLo : ([] : List Loc) = locs
  suffices h9 : ∀ (H : Heap) (locs : List Loc), va_P D vwCl (sm_wX σ α) H → va_S A s.heap H locs → W p l e (headSpec wp_X7_fill { frames := 1, cells := 0, slots := 0, locals := 23 }).room s m ([.ref (α.1 7), .int p1, .long p2, .long p3] : List Value).toArray below meth c H locs 0 0 (MQ below (va_Qv K (sm_B sm_wX D α) A) ([.ref (α.1 7), .int p1, .long p2, .long p3] : List Value).toArray s 0 0 A) (F0 m 0 ls []) from fun hP hS => h9 s.heap locs hP hS
  intro H locs hP hS
  refine lv_aload_n hx hb dX7_fill_0 rfl (lv_at hl 0 rfl) ?_
  refine va_get (D := D) (ci := 7) (v := .ref (α.1 1)) (C := RX7) (T := TX7) (N := 13) hx hb hts in_X7 hown hK hP 7 (sm_gX7 σ α) rfl 3 (by decide) k_0 (fun _ h9 => h9) rfl dX7_fill_1 ?_
  refine lv_iload_n hx hb dX7_fill_4 rfl (lv_at hl 1 rfl) ?_
  refine lv_lload_n hx hb dX7_fill_5 rfl (lv_at hl 2 rfl) ?_
  refine sm_vv (As := [.int p1, .long p2]) (rest := []) hP hK hD hE hS hA ⟨hx, hb, hml, hown, hts⟩ hl.1 (c_X1_put l D H.size t0 σ α p1 p2 _ hF) (cwV 2 hts wg_X7_fill_X1_put_110 rfl rfl rfl (by decide +kernel) ⟨Nat.le_of_ble_eq_true rfl, Nat.le_of_ble_eq_true rfl⟩) (va_recv hK hP (ci := 1) (q0 := 1) rfl (sm_gX1 σ α)) rfl rfl (Nat.le_of_ble_eq_true rfl) dX7_fill_6 ⟨Nat.zero_le _, Nat.zero_le _⟩ (fun σ4 H locs hF hP hS => ?_)
  refine lv_iconst (v := 1) hx hb dX7_fill_9 (by decide) ?_
  refine lv_istore (lv' := [(6, .int 1), (0, .ref (α.1 7)), (1, .int p1), (2, .long p2), (4, .long p3)]) hx hb dX7_fill_10 hl (by decide) rfl (fun ls hl => ?_)
  obtain ⟨n12, hF⟩ := hF
  exact B12 n12 σ4 p1 p3 1 hF H locs ls hP hS (lv_sub hl [1, 2, 4, 0] rfl)
theorem dX7_makeRow_0 : decode cX7_makeRow 0 = .ok (.iload_n 2, 1) := by decide +kernel
theorem dX7_makeRow_1 : decode cX7_makeRow 1 = .ok (.ifCond .lt 10, 3) := by decide +kernel
theorem dX7_makeRow_4 : decode cX7_makeRow 4 = .ok (.iload_n 2, 1) := by decide +kernel
theorem dX7_makeRow_5 : decode cX7_makeRow 5 = .ok (.sipush 3375, 3) := by decide +kernel
theorem dX7_makeRow_8 : decode cX7_makeRow 8 = .ok (.if_icmp .le 5, 3) := by decide +kernel
theorem dX7_makeRow_11 : decode cX7_makeRow 11 = .ok (.iconst 4, 1) := by decide +kernel
theorem dX7_makeRow_12 : decode cX7_makeRow 12 = .ok (.ireturn, 1) := by decide +kernel
theorem dX7_makeRow_13 : decode cX7_makeRow 13 = .ok (.aload_n 0, 1) := by decide +kernel
theorem dX7_makeRow_14 : decode cX7_makeRow 14 = .ok (.getfield 27, 3) := by decide +kernel
theorem dX7_makeRow_17 : decode cX7_makeRow 17 = .ok (.bipush 16, 2) := by decide +kernel
theorem dX7_makeRow_19 : decode cX7_makeRow 19 = .ok (.invokevirtual 200, 3) := by decide +kernel
theorem dX7_makeRow_22 : decode cX7_makeRow 22 = .ok (.istore_n 3, 1) := by decide +kernel
theorem dX7_makeRow_23 : decode cX7_makeRow 23 = .ok (.iload_n 3, 1) := by decide +kernel
theorem dX7_makeRow_24 : decode cX7_makeRow 24 = .ok (.ifCond .ne 6, 3) := by decide +kernel
theorem dX7_makeRow_27 : decode cX7_makeRow 27 = .ok (.bipush (-3), 2) := by decide +kernel
theorem dX7_makeRow_29 : decode cX7_makeRow 29 = .ok (.ireturn, 1) := by decide +kernel
theorem dX7_makeRow_30 : decode cX7_makeRow 30 = .ok (.iload_n 1, 1) := by decide +kernel
theorem dX7_makeRow_31 : decode cX7_makeRow 31 = .ok (.ifCond .ne 15, 3) := by decide +kernel
theorem dX7_makeRow_34 : decode cX7_makeRow 34 = .ok (.iload_n 2, 1) := by decide +kernel
theorem dX7_makeRow_35 : decode cX7_makeRow 35 = .ok (.invokestatic 222, 3) := by decide +kernel
theorem dX7_makeRow_38 : decode cX7_makeRow 38 = .ok (.iconst 1, 1) := by decide +kernel
theorem dX7_makeRow_39 : decode cX7_makeRow 39 = .ok (.if_icmp .ne 7, 3) := by decide +kernel
theorem dX7_makeRow_42 : decode cX7_makeRow 42 = .ok (.iconst 1, 1) := by decide +kernel
theorem dX7_makeRow_43 : decode cX7_makeRow 43 = .ok (.goto 4, 3) := by decide +kernel
theorem dX7_makeRow_46 : decode cX7_makeRow 46 = .ok (.iconst 0, 1) := by decide +kernel
theorem dX7_makeRow_47 : decode cX7_makeRow 47 = .ok (.istore 4, 2) := by decide +kernel
theorem dX7_makeRow_49 : decode cX7_makeRow 49 = .ok (.aload_n 0, 1) := by decide +kernel
theorem dX7_makeRow_50 : decode cX7_makeRow 50 = .ok (.iload_n 3, 1) := by decide +kernel
theorem dX7_makeRow_51 : decode cX7_makeRow 51 = .ok (.iconst 3, 1) := by decide +kernel
theorem dX7_makeRow_52 : decode cX7_makeRow 52 = .ok (.iload_n 1, 1) := by decide +kernel
theorem dX7_makeRow_53 : decode cX7_makeRow 53 = .ok (.bipush 12, 2) := by decide +kernel
theorem dX7_makeRow_55 : decode cX7_makeRow 55 = .ok (.ishl, 1) := by decide +kernel
theorem dX7_makeRow_56 : decode cX7_makeRow 56 = .ok (.iload_n 2, 1) := by decide +kernel
theorem dX7_makeRow_57 : decode cX7_makeRow 57 = .ok (.ior, 1) := by decide +kernel
theorem dX7_makeRow_58 : decode cX7_makeRow 58 = .ok (.invokestatic 139, 3) := by decide +kernel
theorem dX7_makeRow_61 : decode cX7_makeRow 61 = .ok (.iload 4, 2) := by decide +kernel
theorem dX7_makeRow_63 : decode cX7_makeRow 63 = .ok (.ifCond .eq 7, 3) := by decide +kernel
theorem dX7_makeRow_66 : decode cX7_makeRow 66 = .ok (.lconst 0, 1) := by decide +kernel
theorem dX7_makeRow_67 : decode cX7_makeRow 67 = .ok (.goto 6, 3) := by decide +kernel
theorem dX7_makeRow_70 : decode cX7_makeRow 70 = .ok (.ldc2_w 153, 3) := by decide +kernel
theorem dX7_makeRow_73 : decode cX7_makeRow 73 = .ok (.invokevirtual 225, 3) := by decide +kernel
theorem dX7_makeRow_76 : decode cX7_makeRow 76 = .ok (.aload_n 0, 1) := by decide +kernel
theorem dX7_makeRow_77 : decode cX7_makeRow 77 = .ok (.dup, 1) := by decide +kernel
theorem dX7_makeRow_78 : decode cX7_makeRow 78 = .ok (.getfield 46, 3) := by decide +kernel
theorem dX7_makeRow_81 : decode cX7_makeRow 81 = .ok (.iconst 1, 1) := by decide +kernel
theorem dX7_makeRow_82 : decode cX7_makeRow 82 = .ok (.isub, 1) := by decide +kernel
theorem dX7_makeRow_83 : decode cX7_makeRow 83 = .ok (.putfield 46, 3) := by decide +kernel
theorem dX7_makeRow_86 : decode cX7_makeRow 86 = .ok (.aload_n 0, 1) := by decide +kernel
theorem dX7_makeRow_87 : decode cX7_makeRow 87 = .ok (.iconst 1, 1) := by decide +kernel
theorem dX7_makeRow_88 : decode cX7_makeRow 88 = .ok (.iload_n 3, 1) := by decide +kernel
theorem dX7_makeRow_89 : decode cX7_makeRow 89 = .ok (.invokestatic 139, 3) := by decide +kernel
theorem dX7_makeRow_92 : decode cX7_makeRow 92 = .ok (.invokevirtual 143, 3) := by decide +kernel
theorem dX7_makeRow_95 : decode cX7_makeRow 95 = .ok (.ireturn, 1) := by decide +kernel
def wp_X7_makeRow : List Cond := .code yX7_makeRow cX7_makeRow 5 (some .int) :: (((((([.fieldLink RX7 46 "SteadyMachine$Runner" "height" "I", .constantLong RX7 153 (4294967296), .fieldLink RX7 27 "SteadyMachine$Runner" "heap" "LSteadyMachine$Heap;"] ++ (wsV RX7 225 RX7 yX7_fill wp_X7_fill)) ++ (va_wsS RX7 139 yX1_cell wp_X1_cell)) ++ (wsV RX7 143 RX7 yX7_push wp_X7_push)) ++ (wsV RX7 200 RX1 yX1_make wp_X1_make)) ++ (va_wsS RX7 222 yX1_span wp_X1_span)) ++ wsX70)
theorem wq_X7_makeRow : wp_X7_makeRow.all goodWord = true := wa_c rfl (wa_a (wa_a (wa_a (wa_a (wa_a (wa_a (by decide +kernel) (wa_V wq_X7_fill)) (wa_S wq_X1_cell)) (wa_V wq_X7_push)) (wa_V wq_X1_make)) (wa_S wq_X1_span)) uq_X7)
theorem wt_X7_makeRow : GoodIn lw_tbl wp_X7_makeRow := wm_c (List.mem_of_getElem? (i := 1038) (by decide +kernel)) rfl (wm_a (wm_a (wm_a (wm_a (wm_a (wm_a (goodIn_r _ [526, 987, 515] (by decide +kernel) (by decide +kernel)) (wm_a (goodIn_r _ [1042, 1044, 57, 145] (by decide +kernel) (by decide +kernel)) wt_X7_fill)) (wm_a (goodIn_r _ [930, 919, 144] (by decide +kernel) (by decide +kernel)) wt_X1_cell)) (wm_a (goodIn_r _ [983, 985, 47, 145] (by decide +kernel) (by decide +kernel)) wt_X7_push)) (wm_a (goodIn_r _ [885, 886, 887, 144] (by decide +kernel) (by decide +kernel)) wt_X1_make)) (wm_a (goodIn_r _ [1039, 1040, 144] (by decide +kernel) (by decide +kernel)) wt_X1_span)) ut_X7)
theorem wg_X7_makeRow_X7_fill_225 : GoodIn wp_X7_makeRow (wsV RX7 225 RX7 yX7_fill wp_X7_fill) := goodIn_sub (fun w h => List.mem_cons_of_mem _ (List.mem_append_left _ (List.mem_append_left _ (List.mem_append_left _ (List.mem_append_left _ (List.mem_append_left _ (List.mem_append_right _ h))))))) (wa_V wq_X7_fill)
theorem wg_X7_makeRow_X1_cell_139 : GoodIn wp_X7_makeRow (va_wsS RX7 139 yX1_cell wp_X1_cell) := goodIn_sub (fun w h => List.mem_cons_of_mem _ (List.mem_append_left _ (List.mem_append_left _ (List.mem_append_left _ (List.mem_append_left _ (List.mem_append_right _ h)))))) (wa_S wq_X1_cell)
theorem wg_X7_makeRow_X7_push_143 : GoodIn wp_X7_makeRow (wsV RX7 143 RX7 yX7_push wp_X7_push) := goodIn_sub (fun w h => List.mem_cons_of_mem _ (List.mem_append_left _ (List.mem_append_left _ (List.mem_append_left _ (List.mem_append_right _ h))))) (wa_V wq_X7_push)
theorem wg_X7_makeRow_X1_make_200 : GoodIn wp_X7_makeRow (wsV RX7 200 RX1 yX1_make wp_X1_make) := goodIn_sub (fun w h => List.mem_cons_of_mem _ (List.mem_append_left _ (List.mem_append_left _ (List.mem_append_right _ h)))) (wa_V wq_X1_make)
theorem wg_X7_makeRow_X1_span_222 : GoodIn wp_X7_makeRow (va_wsS RX7 222 yX1_span wp_X1_span) := goodIn_sub (fun w h => List.mem_cons_of_mem _ (List.mem_append_left _ (List.mem_append_right _ h))) (wa_S wq_X1_span)
theorem wi_X7_makeRow_X7 : ∀ w ∈ wsX70, w ∈ wp_X7_makeRow := fun w h => List.mem_cons_of_mem _ (List.mem_append_right _ h)
set_option maxHeartbeats 4000000 in
set_option maxRecDepth 100000 in
theorem c_X7_makeRow (l : Launch) (D : va_G) (sz t0 : Nat) (σ : sm_S) (α : sm_A) (p1 : Int32) (p2 : Int32) (K : Int32 → sm_S → Prop) (hF : mp_X7_makeRow σ p1 p2 K) : Met l yX7_makeRow wp_X7_makeRow { frames := 4, cells := 0, slots := 0, locals := 93 } (sm_P sm_wX sm_tX 37 D sz t0 σ α [.ref (α.1 7), .int p1, .int p2]) (va_Qi K (sm_B sm_wX D α) (sm_a α 37 sz)) 0 0 (sm_a α 37 sz) := by
  refine Met.ofW (cc := cX7_makeRow) (maxL := 5) (ret := (some .int)) (by decide) rfl ?_
  intro p e s m args below meth c s₁ B hml hv
  obtain ⟨rfl, hsz, hP, hK, hD0, hE⟩ := hv
  have hx := B.exec
  have hb := B.bytes
  have hr := B.returns
  have hts := atoms_spec (ws := wp_X7_makeRow) B.pre
  have hown : s.vm.findClass RX7 = some m.cls := findClass_of_methodNamed B.named
  have hlocks := B.notSynchronized
  subst hsz
  have hD : sm_D (sm_a α 37 s.heap.size) α 37 := hD0.own
  have hA : ∀ q : Nat, s.heap.size ≤ q → sm_a α 37 s.heap.size q := fun q h => Or.inr h
  generalize hAe : sm_a α 37 s.heap.size = A at hD hA hE ⊢
  have hS : va_S A s.heap s.heap [] := va_S.rf
  have in_X7 : ∀ w ∈ wsX70, w ∈ wp_X7_makeRow := wi_X7_makeRow_X7
  have k_0 := hts (.fieldLink RX7 46 "SteadyMachine$Runner" "height" "I") (by decide +kernel)
  have k_1 := hts (.constantLong RX7 153 (4294967296)) (by decide +kernel)
  have k_2 := hts (.fieldLink RX7 27 "SteadyMachine$Runner" "heap" "LSteadyMachine$Heap;") (by decide +kernel)
  have hl := lv_entry ([.ref (α.1 7), .int p1, .int p2]) (n := 5) (Nat.le_of_ble_eq_true rfl)
  rw [lg_entry_eq]
  generalize (lg_sl ([.ref (α.1 7), .int p1, .int p2]) ++ List.replicate (5 - (lg_sl ([.ref (α.1 7), .int p1, .int p2])).length) Slot.unset).toArray = ls at hl ⊢
  have hl : lv_has ls 5 [(0, .ref (α.1 7)), (1, .int p1), (2, .int p2)] := hl
  have B73 : ∀ (σ : sm_S) (x3 : Int32) (y1 : Int32) (y2 : Int64) (y3 : Int64), mp_X7_makeRow_73 K σ x3 y1 y2 y3 → sm_J p l e (headSpec wp_X7_makeRow { frames := 4, cells := 0, slots := 0, locals := 93 }).room s m ([.ref (α.1 7), .int p1, .int p2] : List Value).toArray below meth c (MQ below (va_Qi K (sm_B sm_wX D α) A) ([.ref (α.1 7), .int p1, .int p2] : List Value).toArray s 0 0 A) D A 5 (sm_wX σ α) 73 [(0, .ref (α.1 7)), (3, .int x3)] [.long y3, .long y2, .int y1, .ref (α.1 7)] := by
    intro σ x3 y1 y2 y3 hF H locs ls hP hS hl
    unfold mp_X7_makeRow_73 at hF
    refine sm_vv (As := [.int y1, .long y2, .long y3]) (rest := []) hP hK hD hE hS hA ⟨hx, hb, hml, hown, hts⟩ hl.1 (c_X7_fill l D H.size t0 σ α y1 y2 y3 _ hF) (cwV 3 hts wg_X7_makeRow_X7_fill_225 rfl rfl rfl (by decide +kernel) ⟨Nat.le_of_ble_eq_true rfl, Nat.le_of_ble_eq_true rfl⟩) (va_recv hK hP (ci := 7) (q0 := 7) rfl (sm_gX7 σ α)) rfl rfl (Nat.le_of_ble_eq_true rfl) dX7_makeRow_73 ⟨Nat.zero_le _, Nat.zero_le _⟩ (fun σ1 H locs hF hP hS => ?_)
    refine lv_aload_n hx hb dX7_makeRow_76 rfl (lv_at hl 0 rfl) ?_
    refine lv_dup hx hb dX7_makeRow_77 rfl ?_
    refine va_get (D := D) (ci := 7) (v := .int (σ1.1 27)) (C := RX7) (T := TX7) (N := 13) hx hb hts in_X7 hown hK hP 7 (sm_gX7 σ1 α) rfl 11 (by decide) k_0 (fun _ h9 => h9) rfl dX7_makeRow_78 ?_
    refine lv_iconst (v := 1) hx hb dX7_makeRow_81 (by decide) ?_
    refine lv_isub hx hb dX7_makeRow_82 ?_
    refine va_put (D := D) (ci := 7) (v := .int ((σ1.1 27) - 1)) (ty := .int) (C := RX7) (T := TX7) (N := 13) hx hb hts in_X7 tyX7 tyX7_ok nmX7 hown hK hP (hD.to (sm_wX_m _ _)) hS 7 (sm_gX7 σ1 α) rfl 11 (by decide) k_0 (fun _ h9 => h9) rfl (by decide +kernel) rfl rfl (Nat.le_of_ble_eq_true rfl) dX7_makeRow_83 (fun H locs hP _ hS => ?_)
    rw [sm_iX27] at hP
    obtain ⟨σ2, eσ2⟩ : ∃ x : sm_S, x = sm_i σ1 27 ((σ1.1 27) - 1) := ⟨_, rfl⟩
    replace hF := hF σ2 eσ2
    rw [← eσ2] at hP
    refine lv_aload_n hx hb dX7_makeRow_86 rfl (lv_at hl 0 rfl) ?_
    refine lv_iconst (v := 1) hx hb dX7_makeRow_87 (by decide) ?_
    refine lv_iload_n hx hb dX7_makeRow_88 rfl (lv_at hl 1 rfl) ?_
    refine sm_sl (As := [.int 1, .int x3]) (rest := [.ref (α.1 7)]) hP hK hD hE hS hA ⟨hx, hb, hml, hown, hts⟩ hl.1 (c_X1_cell l D H.size t0 σ2 α 1 x3 _ hF) (va_cwS 2 hts wg_X7_makeRow_X1_cell_139 rfl rfl rfl (by decide +kernel) ⟨Nat.le_of_ble_eq_true rfl, Nat.le_of_ble_eq_true rfl⟩) rfl rfl (Nat.le_of_ble_eq_true rfl) dX7_makeRow_89 ⟨Nat.zero_le _, Nat.zero_le _⟩ (fun r4 σ3 H locs hF hP hS => ?_)
    refine sm_vi (As := [.long r4]) (rest := []) hP hK hD hE hS hA ⟨hx, hb, hml, hown, hts⟩ hl.1 (c_X7_push l D H.size t0 σ3 α r4 _ hF) (cwV 1 hts wg_X7_makeRow_X7_push_143 rfl rfl rfl (by decide +kernel) ⟨Nat.le_of_ble_eq_true rfl, Nat.le_of_ble_eq_true rfl⟩) (va_recv hK hP (ci := 7) (q0 := 7) rfl (sm_gX7 σ3 α)) rfl rfl (Nat.le_of_ble_eq_true rfl) dX7_makeRow_92 ⟨Nat.zero_le _, Nat.zero_le _⟩ (fun r6 σ5 H locs hF hP hS => ?_)
    exact W.iret (v := r6) hx hb hr (fun t ht hW => ⟨⟨r6, σ5, rfl, hF, (by unfold sm_B; rw [ht]; exact hP)⟩, hS.F ht⟩) hS.2.2 dX7_makeRow_95
  have B47 : ∀ (σ : sm_S) (x1 : Int32) (x2 : Int32) (x3 : Int32) (y0 : Int32), mp_X7_makeRow_47 K σ x1 x2 x3 y0 → sm_J p l e (headSpec wp_X7_makeRow { frames := 4, cells := 0, slots := 0, locals := 93 }).room s m ([.ref (α.1 7), .int p1, .int p2] : List Value).toArray below meth c (MQ below (va_Qi K (sm_B sm_wX D α) A) ([.ref (α.1 7), .int p1, .int p2] : List Value).toArray s 0 0 A) D A 5 (sm_wX σ α) 47 [(0, .ref (α.1 7)), (1, .int x1), (2, .int x2), (3, .int x3)] [.int y0] := by
    intro σ x1 x2 x3 y0 hF H locs ls hP hS hl
    unfold mp_X7_makeRow_47 at hF
    refine lv_istore (lv' := [(4, .int y0), (0, .ref (α.1 7)), (1, .int x1), (2, .int x2), (3, .int x3)]) hx hb dX7_makeRow_47 hl (by decide) rfl (fun ls hl => ?_)
    refine lv_aload_n hx hb dX7_makeRow_49 rfl (lv_at hl 1 rfl) ?_
    refine lv_iload_n hx hb dX7_makeRow_50 rfl (lv_at hl 4 rfl) ?_
    refine lv_iconst (v := 3) hx hb dX7_makeRow_51 (by decide) ?_
    refine lv_iload_n hx hb dX7_makeRow_52 rfl (lv_at hl 2 rfl) ?_
    refine lv_bipush (v := 12) hx hb dX7_makeRow_53 (by decide) ?_
    refine lv_ishl hx hb dX7_makeRow_55 ?_
    refine lv_iload_n hx hb dX7_makeRow_56 rfl (lv_at hl 3 rfl) ?_
    refine lv_ior hx hb dX7_makeRow_57 ?_
    refine sm_sl (As := [.int 3, .int ((x1 <<< (12 &&& 31)) ||| x2)]) (rest := [.int x3, .ref (α.1 7)]) hP hK hD hE hS hA ⟨hx, hb, hml, hown, hts⟩ hl.1 (c_X1_cell l D H.size t0 σ α 3 ((x1 <<< (12 &&& 31)) ||| x2) _ hF) (va_cwS 2 hts wg_X7_makeRow_X1_cell_139 rfl rfl rfl (by decide +kernel) ⟨Nat.le_of_ble_eq_true rfl, Nat.le_of_ble_eq_true rfl⟩) rfl rfl (Nat.le_of_ble_eq_true rfl) dX7_makeRow_58 ⟨Nat.zero_le _, Nat.zero_le _⟩ (fun r8 σ7 H locs hF hP hS => ?_)
    refine lv_iload hx hb dX7_makeRow_61 (lv_at hl 0 rfl) ?_
    refine lv_if_eq (tgt := 70) hx hb dX7_makeRow_63 (by decide) (fun h9 => ?_) (fun h9 => ?_)
    · replace hF := hF.1 h9
      refine lv_ldc2 (v := 4294967296) hx hb hown k_1 dX7_makeRow_70 ?_
      exact B73 σ7 x3 x3 r8 4294967296 hF H locs ls hP hS (lv_sub hl [1, 4] rfl)
    · replace hF := hF.2 h9
      refine lv_lconst (v := 0) hx hb dX7_makeRow_66 (by decide) ?_
      refine lv_goto (tgt := 73) hx hb dX7_makeRow_67 (by decide) ?_
      exact B73 σ7 x3 x3 r8 0 hF H locs ls hP hS (lv_sub hl [1, 4] rfl)
  have B46 : ∀ (σ : sm_S) (x1 : Int32) (x2 : Int32) (x3 : Int32), mp_X7_makeRow_46 K σ x1 x2 x3 → sm_J p l e (headSpec wp_X7_makeRow { frames := 4, cells := 0, slots := 0, locals := 93 }).room s m ([.ref (α.1 7), .int p1, .int p2] : List Value).toArray below meth c (MQ below (va_Qi K (sm_B sm_wX D α) A) ([.ref (α.1 7), .int p1, .int p2] : List Value).toArray s 0 0 A) D A 5 (sm_wX σ α) 46 [(0, .ref (α.1 7)), (1, .int x1), (2, .int x2), (3, .int x3)] [] := by
    intro σ x1 x2 x3 hF H locs ls hP hS hl
    unfold mp_X7_makeRow_46 at hF
    refine lv_iconst (v := 0) hx hb dX7_makeRow_46 (by decide) ?_
    exact B47 σ x1 x2 x3 0 hF H locs ls hP hS (lv_sub hl [0, 1, 2, 3] rfl)
  have B11 : ∀ (σ : sm_S), mp_X7_makeRow_11 K σ → sm_J p l e (headSpec wp_X7_makeRow { frames := 4, cells := 0, slots := 0, locals := 93 }).room s m ([.ref (α.1 7), .int p1, .int p2] : List Value).toArray below meth c (MQ below (va_Qi K (sm_B sm_wX D α) A) ([.ref (α.1 7), .int p1, .int p2] : List Value).toArray s 0 0 A) D A 5 (sm_wX σ α) 11 [] [] := by
    intro σ hF H locs ls hP hS hl
    unfold mp_X7_makeRow_11 at hF
    refine lv_iconst (v := 4) hx hb dX7_makeRow_11 (by decide) ?_
    exact W.iret (v := 4) hx hb hr (fun t ht hW => ⟨⟨4, σ, rfl, hF, (by unfold sm_B; rw [ht]; exact hP)⟩, hS.F ht⟩) hS.2.2 dX7_makeRow_12
  unfold mp_X7_makeRow at hF
  revert hP hS
  generalize hLo : ([] : List Loc) = locs
  suffices h9 : ∀ (H : Heap) (locs : List Loc), va_P D vwCl (sm_wX σ α) H → va_S A s.heap H locs → W p l e (headSpec wp_X7_makeRow { frames := 4, cells := 0, slots := 0, locals := 93 }).room s m ([.ref (α.1 7), .int p1, .int p2] : List Value).toArray below meth c H locs 0 0 (MQ below (va_Qi K (sm_B sm_wX D α) A) ([.ref (α.1 7), .int p1, .int p2] : List Value).toArray s 0 0 A) (F0 m 0 ls []) from fun hP hS => h9 s.heap locs hP hS
  intro H locs hP hS
  refine lv_iload_n hx hb dX7_makeRow_0 rfl (lv_at hl 2 rfl) ?_
  refine lv_if_lt (tgt := 11) hx hb dX7_makeRow_1 (by decide) (fun h10 => ?_) (fun h10 => ?_)
  · replace hF := hF.1 h10
    exact B11 σ hF H locs ls hP hS (lv_sub hl [] rfl)
  · replace hF := hF.2 h10
    refine lv_iload_n hx hb dX7_makeRow_4 rfl (lv_at hl 2 rfl) ?_
    refine lv_sipush (v := 3375) hx hb dX7_makeRow_5 (by decide) ?_
    refine lv_icmp_le (tgt := 13) hx hb dX7_makeRow_8 (by decide) (fun h11 => ?_) (fun h11 => ?_)
    · replace hF := hF.1 h11
      refine lv_aload_n hx hb dX7_makeRow_13 rfl (lv_at hl 0 rfl) ?_
      refine va_get (D := D) (ci := 7) (v := .ref (α.1 1)) (C := RX7) (T := TX7) (N := 13) hx hb hts in_X7 hown hK hP 7 (sm_gX7 σ α) rfl 3 (by decide) k_2 (fun _ h9 => h9) rfl dX7_makeRow_14 ?_
      refine lv_bipush (v := 16) hx hb dX7_makeRow_17 (by decide) ?_
      refine sm_vi (As := [.int 16]) (rest := []) hP hK hD hE hS hA ⟨hx, hb, hml, hown, hts⟩ hl.1 (c_X1_make l D H.size t0 σ α 16 _ hF) (cwV 1 hts wg_X7_makeRow_X1_make_200 rfl rfl rfl (by decide +kernel) ⟨Nat.le_of_ble_eq_true rfl, Nat.le_of_ble_eq_true rfl⟩) (va_recv hK hP (ci := 1) (q0 := 1) rfl (sm_gX1 σ α)) rfl rfl (Nat.le_of_ble_eq_true rfl) dX7_makeRow_19 ⟨Nat.zero_le _, Nat.zero_le _⟩ (fun r13 σ12 H locs hF hP hS => ?_)
      refine lv_istore_n (lv' := [(3, .int r13), (0, .ref (α.1 7)), (1, .int p1), (2, .int p2)]) hx hb dX7_makeRow_22 rfl hl (by decide) rfl (fun ls hl => ?_)
      refine lv_iload_n hx hb dX7_makeRow_23 rfl (lv_at hl 0 rfl) ?_
      refine lv_if_ne (tgt := 30) hx hb dX7_makeRow_24 (by decide) (fun h14 => ?_) (fun h14 => ?_)
      · replace hF := hF.1 h14
        refine lv_iload_n hx hb dX7_makeRow_30 rfl (lv_at hl 2 rfl) ?_
        refine lv_if_ne (tgt := 46) hx hb dX7_makeRow_31 (by decide) (fun h15 => ?_) (fun h15 => ?_)
        · replace hF := hF.1 h15
          exact B46 σ12 p1 p2 r13 hF H locs ls hP hS (lv_sub hl [1, 2, 3, 0] rfl)
        · replace hF := hF.2 h15
          refine lv_iload_n hx hb dX7_makeRow_34 rfl (lv_at hl 3 rfl) ?_
          refine sm_si (As := [.int p2]) (rest := []) hP hK hD hE hS hA ⟨hx, hb, hml, hown, hts⟩ hl.1 (c_X1_span l D H.size t0 σ12 α p2 _ hF) (va_cwS 1 hts wg_X7_makeRow_X1_span_222 rfl rfl rfl (by decide +kernel) ⟨Nat.le_of_ble_eq_true rfl, Nat.le_of_ble_eq_true rfl⟩) rfl rfl (Nat.le_of_ble_eq_true rfl) dX7_makeRow_35 ⟨Nat.zero_le _, Nat.zero_le _⟩ (fun r17 σ16 H locs hF hP hS => ?_)
          refine lv_iconst (v := 1) hx hb dX7_makeRow_38 (by decide) ?_
          refine lv_icmp_ne (tgt := 46) hx hb dX7_makeRow_39 (by decide) (fun h18 => ?_) (fun h18 => ?_)
          · replace hF := hF.1 h18
            exact B46 σ16 p1 p2 r13 hF H locs ls hP hS (lv_sub hl [1, 2, 3, 0] rfl)
          · replace hF := hF.2 h18
            refine lv_iconst (v := 1) hx hb dX7_makeRow_42 (by decide) ?_
            refine lv_goto (tgt := 47) hx hb dX7_makeRow_43 (by decide) ?_
            exact B47 σ16 p1 p2 r13 1 hF H locs ls hP hS (lv_sub hl [1, 2, 3, 0] rfl)
      · replace hF := hF.2 h14
        refine lv_bipush (v := -3) hx hb dX7_makeRow_27 (by decide) ?_
        exact W.iret (v := (-3)) hx hb hr (fun t ht hW => ⟨⟨(-3), σ12, rfl, hF, (by unfold sm_B; rw [ht]; exact hP)⟩, hS.F ht⟩) hS.2.2 dX7_makeRow_29
    · replace hF := hF.2 h11
      exact B11 σ hF H locs ls hP hS (lv_sub hl [] rfl)
theorem dX7_store_0 : decode cX7_store 0 = .ok (.aload_n 0, 1) := by decide +kernel
theorem dX7_store_1 : decode cX7_store 1 = .ok (.iload_n 1, 1) := by decide +kernel
theorem dX7_store_2 : decode cX7_store 2 = .ok (.iload_n 2, 1) := by decide +kernel
theorem dX7_store_3 : decode cX7_store 3 = .ok (.invokevirtual 232, 3) := by decide +kernel
theorem dX7_store_6 : decode cX7_store 6 = .ok (.istore_n 3, 1) := by decide +kernel
theorem dX7_store_7 : decode cX7_store 7 = .ok (.aload_n 0, 1) := by decide +kernel
theorem dX7_store_8 : decode cX7_store 8 = .ok (.getfield 229, 3) := by decide +kernel
theorem dX7_store_11 : decode cX7_store 11 = .ok (.ifCond .ne 27, 3) := by decide +kernel
theorem dX7_store_14 : decode cX7_store 14 = .ok (.aload_n 0, 1) := by decide +kernel
theorem dX7_store_15 : decode cX7_store 15 = .ok (.getfield 27, 3) := by decide +kernel
theorem dX7_store_18 : decode cX7_store 18 = .ok (.iload_n 3, 1) := by decide +kernel
theorem dX7_store_19 : decode cX7_store 19 = .ok (.aload_n 0, 1) := by decide +kernel
theorem dX7_store_20 : decode cX7_store 20 = .ok (.invokevirtual 155, 3) := by decide +kernel
theorem dX7_store_23 : decode cX7_store 23 = .ok (.invokevirtual 182, 3) := by decide +kernel
theorem dX7_store_26 : decode cX7_store 26 = .ok (.aload_n 0, 1) := by decide +kernel
theorem dX7_store_27 : decode cX7_store 27 = .ok (.dup, 1) := by decide +kernel
theorem dX7_store_28 : decode cX7_store 28 = .ok (.getfield 46, 3) := by decide +kernel
theorem dX7_store_31 : decode cX7_store 31 = .ok (.iconst 2, 1) := by decide +kernel
theorem dX7_store_32 : decode cX7_store 32 = .ok (.isub, 1) := by decide +kernel
theorem dX7_store_33 : decode cX7_store 33 = .ok (.putfield 46, 3) := by decide +kernel
theorem dX7_store_36 : decode cX7_store 36 = .ok (.iconst (-1), 1) := by decide +kernel
theorem dX7_store_37 : decode cX7_store 37 = .ok (.ireturn, 1) := by decide +kernel
theorem dX7_store_38 : decode cX7_store 38 = .ok (.aload_n 0, 1) := by decide +kernel
theorem dX7_store_39 : decode cX7_store 39 = .ok (.getfield 27, 3) := by decide +kernel
theorem dX7_store_42 : decode cX7_store 42 = .ok (.bipush 16, 2) := by decide +kernel
theorem dX7_store_44 : decode cX7_store 44 = .ok (.invokevirtual 200, 3) := by decide +kernel
theorem dX7_store_47 : decode cX7_store 47 = .ok (.istore 4, 2) := by decide +kernel
theorem dX7_store_49 : decode cX7_store 49 = .ok (.iload 4, 2) := by decide +kernel
theorem dX7_store_51 : decode cX7_store 51 = .ok (.ifCond .ne 6, 3) := by decide +kernel
theorem dX7_store_54 : decode cX7_store 54 = .ok (.bipush (-3), 2) := by decide +kernel
theorem dX7_store_56 : decode cX7_store 56 = .ok (.ireturn, 1) := by decide +kernel
theorem dX7_store_57 : decode cX7_store 57 = .ok (.aload_n 0, 1) := by decide +kernel
theorem dX7_store_58 : decode cX7_store 58 = .ok (.iconst 2, 1) := by decide +kernel
theorem dX7_store_59 : decode cX7_store 59 = .ok (.invokevirtual 159, 3) := by decide +kernel
theorem dX7_store_62 : decode cX7_store 62 = .ok (.l2i, 1) := by decide +kernel
theorem dX7_store_63 : decode cX7_store 63 = .ok (.istore 5, 2) := by decide +kernel
theorem dX7_store_65 : decode cX7_store 65 = .ok (.aload_n 0, 1) := by decide +kernel
theorem dX7_store_66 : decode cX7_store 66 = .ok (.getfield 229, 3) := by decide +kernel
theorem dX7_store_69 : decode cX7_store 69 = .ok (.bipush 15, 2) := by decide +kernel
theorem dX7_store_71 : decode cX7_store 71 = .ok (.if_icmp .ne 22, 3) := by decide +kernel
theorem dX7_store_74 : decode cX7_store 74 = .ok (.aload_n 0, 1) := by decide +kernel
theorem dX7_store_75 : decode cX7_store 75 = .ok (.getfield 27, 3) := by decide +kernel
theorem dX7_store_78 : decode cX7_store 78 = .ok (.iload 5, 2) := by decide +kernel
theorem dX7_store_80 : decode cX7_store 80 = .ok (.invokevirtual 120, 3) := by decide +kernel
theorem dX7_store_83 : decode cX7_store 83 = .ok (.invokestatic 235, 3) := by decide +kernel
theorem dX7_store_86 : decode cX7_store 86 = .ok (.ifCond .ne 7, 3) := by decide +kernel
theorem dX7_store_89 : decode cX7_store 89 = .ok (.iconst 1, 1) := by decide +kernel
theorem dX7_store_90 : decode cX7_store 90 = .ok (.goto 4, 3) := by decide +kernel
theorem dX7_store_93 : decode cX7_store 93 = .ok (.iconst 0, 1) := by decide +kernel
theorem dX7_store_94 : decode cX7_store 94 = .ok (.istore 6, 2) := by decide +kernel
theorem dX7_store_96 : decode cX7_store 96 = .ok (.aload_n 0, 1) := by decide +kernel
theorem dX7_store_97 : decode cX7_store 97 = .ok (.iload 4, 2) := by decide +kernel
theorem dX7_store_99 : decode cX7_store 99 = .ok (.iconst 4, 1) := by decide +kernel
theorem dX7_store_100 : decode cX7_store 100 = .ok (.iconst 0, 1) := by decide +kernel
theorem dX7_store_101 : decode cX7_store 101 = .ok (.invokestatic 139, 3) := by decide +kernel
theorem dX7_store_104 : decode cX7_store 104 = .ok (.iload 6, 2) := by decide +kernel
theorem dX7_store_106 : decode cX7_store 106 = .ok (.ifCond .eq 7, 3) := by decide +kernel
theorem dX7_store_109 : decode cX7_store 109 = .ok (.lconst 0, 1) := by decide +kernel
theorem dX7_store_110 : decode cX7_store 110 = .ok (.goto 6, 3) := by decide +kernel
theorem dX7_store_113 : decode cX7_store 113 = .ok (.ldc2_w 153, 3) := by decide +kernel
theorem dX7_store_116 : decode cX7_store 116 = .ok (.invokevirtual 225, 3) := by decide +kernel
theorem dX7_store_119 : decode cX7_store 119 = .ok (.aload_n 0, 1) := by decide +kernel
theorem dX7_store_120 : decode cX7_store 120 = .ok (.getfield 27, 3) := by decide +kernel
theorem dX7_store_123 : decode cX7_store 123 = .ok (.aload_n 0, 1) := by decide +kernel
theorem dX7_store_124 : decode cX7_store 124 = .ok (.iload 5, 2) := by decide +kernel
theorem dX7_store_126 : decode cX7_store 126 = .ok (.iload_n 2, 1) := by decide +kernel
theorem dX7_store_127 : decode cX7_store 127 = .ok (.invokevirtual 232, 3) := by decide +kernel
theorem dX7_store_130 : decode cX7_store 130 = .ok (.iconst 1, 1) := by decide +kernel
theorem dX7_store_131 : decode cX7_store 131 = .ok (.iload 4, 2) := by decide +kernel
theorem dX7_store_133 : decode cX7_store 133 = .ok (.invokestatic 139, 3) := by decide +kernel
theorem dX7_store_136 : decode cX7_store 136 = .ok (.invokevirtual 110, 3) := by decide +kernel
theorem dX7_store_139 : decode cX7_store 139 = .ok (.bipush (-2), 2) := by decide +kernel
theorem dX7_store_141 : decode cX7_store 141 = .ok (.ireturn, 1) := by decide +kernel
def wp_X7_store : List Cond := .code yX7_store cX7_store 7 (some .int) :: ((((((((((([.fieldLink RX7 27 "SteadyMachine$Runner" "heap" "LSteadyMachine$Heap;", .constantLong RX7 153 (4294967296), .fieldLink RX7 229 "SteadyMachine$Runner" "lacking" "I", .fieldLink RX7 46 "SteadyMachine$Runner" "height" "I"] ++ (wsV RX7 225 RX7 yX7_fill wp_X7_fill)) ++ (wsV RX7 232 RX7 yX7_find wp_X7_find)) ++ (va_wsS RX7 139 yX1_cell wp_X1_cell)) ++ (wsV RX7 110 RX1 yX1_put wp_X1_put)) ++ (wsV RX7 200 RX1 yX1_make wp_X1_make)) ++ (wsV RX7 159 RX7 yX7_below wp_X7_below)) ++ (wsV RX7 120 RX1 yX1_look wp_X1_look)) ++ (va_wsS RX7 235 yX1_rowItem wp_X1_rowItem)) ++ (wsV RX7 155 RX7 yX7_pop wp_X7_pop)) ++ (wsV RX7 182 RX1 yX1_change wp_X1_change)) ++ wsX70)
theorem wq_X7_store : wp_X7_store.all goodWord = true := wa_c rfl (wa_a (wa_a (wa_a (wa_a (wa_a (wa_a (wa_a (wa_a (wa_a (wa_a (wa_a (by decide +kernel) (wa_V wq_X7_fill)) (wa_V wq_X7_find)) (wa_S wq_X1_cell)) (wa_V wq_X1_put)) (wa_V wq_X1_make)) (wa_V wq_X7_below)) (wa_V wq_X1_look)) (wa_S wq_X1_rowItem)) (wa_V wq_X7_pop)) (wa_V wq_X1_change)) uq_X7)
theorem wt_X7_store : GoodIn lw_tbl wp_X7_store := wm_c (List.mem_of_getElem? (i := 1063) (by decide +kernel)) rfl (wm_a (wm_a (wm_a (wm_a (wm_a (wm_a (wm_a (wm_a (wm_a (wm_a (wm_a (goodIn_r _ [515, 987, 527, 526] (by decide +kernel) (by decide +kernel)) (wm_a (goodIn_r _ [1042, 1044, 57, 145] (by decide +kernel) (by decide +kernel)) wt_X7_fill)) (wm_a (goodIn_r _ [1053, 1055, 59, 145] (by decide +kernel) (by decide +kernel)) wt_X7_find)) (wm_a (goodIn_r _ [930, 919, 144] (by decide +kernel) (by decide +kernel)) wt_X1_cell)) (wm_a (goodIn_r _ [931, 923, 924, 144] (by decide +kernel) (by decide +kernel)) wt_X1_put)) (wm_a (goodIn_r _ [885, 886, 887, 144] (by decide +kernel) (by decide +kernel)) wt_X1_make)) (wm_a (goodIn_r _ [992, 994, 49, 145] (by decide +kernel) (by decide +kernel)) wt_X7_below)) (wm_a (goodIn_r _ [936, 911, 912, 144] (by decide +kernel) (by decide +kernel)) wt_X1_look)) (wm_a (goodIn_r _ [1057, 1058, 144] (by decide +kernel) (by decide +kernel)) wt_X1_rowItem)) (wm_a (goodIn_r _ [988, 990, 48, 145] (by decide +kernel) (by decide +kernel)) wt_X7_pop)) (wm_a (goodIn_r _ [1020, 1021, 1022, 144] (by decide +kernel) (by decide +kernel)) wt_X1_change)) ut_X7)
theorem wg_X7_store_X7_fill_225 : GoodIn wp_X7_store (wsV RX7 225 RX7 yX7_fill wp_X7_fill) := goodIn_sub (fun w h => List.mem_cons_of_mem _ (List.mem_append_left _ (List.mem_append_left _ (List.mem_append_left _ (List.mem_append_left _ (List.mem_append_left _ (List.mem_append_left _ (List.mem_append_left _ (List.mem_append_left _ (List.mem_append_left _ (List.mem_append_left _ (List.mem_append_right _ h)))))))))))) (wa_V wq_X7_fill)
theorem wg_X7_store_X7_find_232 : GoodIn wp_X7_store (wsV RX7 232 RX7 yX7_find wp_X7_find) := goodIn_sub (fun w h => List.mem_cons_of_mem _ (List.mem_append_left _ (List.mem_append_left _ (List.mem_append_left _ (List.mem_append_left _ (List.mem_append_left _ (List.mem_append_left _ (List.mem_append_left _ (List.mem_append_left _ (List.mem_append_left _ (List.mem_append_right _ h))))))))))) (wa_V wq_X7_find)
theorem wg_X7_store_X1_cell_139 : GoodIn wp_X7_store (va_wsS RX7 139 yX1_cell wp_X1_cell) := goodIn_sub (fun w h => List.mem_cons_of_mem _ (List.mem_append_left _ (List.mem_append_left _ (List.mem_append_left _ (List.mem_append_left _ (List.mem_append_left _ (List.mem_append_left _ (List.mem_append_left _ (List.mem_append_left _ (List.mem_append_right _ h)))))))))) (wa_S wq_X1_cell)
theorem wg_X7_store_X1_put_110 : GoodIn wp_X7_store (wsV RX7 110 RX1 yX1_put wp_X1_put) := goodIn_sub (fun w h => List.mem_cons_of_mem _ (List.mem_append_left _ (List.mem_append_left _ (List.mem_append_left _ (List.mem_append_left _ (List.mem_append_left _ (List.mem_append_left _ (List.mem_append_left _ (List.mem_append_right _ h))))))))) (wa_V wq_X1_put)
theorem wg_X7_store_X1_make_200 : GoodIn wp_X7_store (wsV RX7 200 RX1 yX1_make wp_X1_make) := goodIn_sub (fun w h => List.mem_cons_of_mem _ (List.mem_append_left _ (List.mem_append_left _ (List.mem_append_left _ (List.mem_append_left _ (List.mem_append_left _ (List.mem_append_left _ (List.mem_append_right _ h)))))))) (wa_V wq_X1_make)
theorem wg_X7_store_X7_below_159 : GoodIn wp_X7_store (wsV RX7 159 RX7 yX7_below wp_X7_below) := goodIn_sub (fun w h => List.mem_cons_of_mem _ (List.mem_append_left _ (List.mem_append_left _ (List.mem_append_left _ (List.mem_append_left _ (List.mem_append_left _ (List.mem_append_right _ h))))))) (wa_V wq_X7_below)
theorem wg_X7_store_X1_look_120 : GoodIn wp_X7_store (wsV RX7 120 RX1 yX1_look wp_X1_look) := goodIn_sub (fun w h => List.mem_cons_of_mem _ (List.mem_append_left _ (List.mem_append_left _ (List.mem_append_left _ (List.mem_append_left _ (List.mem_append_right _ h)))))) (wa_V wq_X1_look)
theorem wg_X7_store_X1_rowItem_235 : GoodIn wp_X7_store (va_wsS RX7 235 yX1_rowItem wp_X1_rowItem) := goodIn_sub (fun w h => List.mem_cons_of_mem _ (List.mem_append_left _ (List.mem_append_left _ (List.mem_append_left _ (List.mem_append_right _ h))))) (wa_S wq_X1_rowItem)
theorem wg_X7_store_X7_pop_155 : GoodIn wp_X7_store (wsV RX7 155 RX7 yX7_pop wp_X7_pop) := goodIn_sub (fun w h => List.mem_cons_of_mem _ (List.mem_append_left _ (List.mem_append_left _ (List.mem_append_right _ h)))) (wa_V wq_X7_pop)
theorem wg_X7_store_X1_change_182 : GoodIn wp_X7_store (wsV RX7 182 RX1 yX1_change wp_X1_change) := goodIn_sub (fun w h => List.mem_cons_of_mem _ (List.mem_append_left _ (List.mem_append_right _ h))) (wa_V wq_X1_change)
theorem wi_X7_store_X7 : ∀ w ∈ wsX70, w ∈ wp_X7_store := fun w h => List.mem_cons_of_mem _ (List.mem_append_right _ h)
set_option maxHeartbeats 4000000 in
set_option maxRecDepth 100000 in
theorem c_X7_store (l : Launch) (D : va_G) (sz t0 : Nat) (σ : sm_S) (α : sm_A) (p1 : Int32) (p2 : Int32) (K : Int32 → sm_S → Prop) (hF : mp_X7_store σ p1 p2 K) : Met l yX7_store wp_X7_store { frames := 4, cells := 0, slots := 0, locals := 93 } (sm_P sm_wX sm_tX 37 D sz t0 σ α [.ref (α.1 7), .int p1, .int p2]) (va_Qi K (sm_B sm_wX D α) (sm_a α 37 sz)) 0 0 (sm_a α 37 sz) := by
  refine Met.ofW (cc := cX7_store) (maxL := 7) (ret := (some .int)) (by decide) rfl ?_
  intro p e s m args below meth c s₁ B hml hv
  obtain ⟨rfl, hsz, hP, hK, hD0, hE⟩ := hv
  have hx := B.exec
  have hb := B.bytes
  have hr := B.returns
  have hts := atoms_spec (ws := wp_X7_store) B.pre
  have hown : s.vm.findClass RX7 = some m.cls := findClass_of_methodNamed B.named
  have hlocks := B.notSynchronized
  subst hsz
  have hD : sm_D (sm_a α 37 s.heap.size) α 37 := hD0.own
  have hA : ∀ q : Nat, s.heap.size ≤ q → sm_a α 37 s.heap.size q := fun q h => Or.inr h
  generalize hAe : sm_a α 37 s.heap.size = A at hD hA hE ⊢
  have hS : va_S A s.heap s.heap [] := va_S.rf
  have in_X7 : ∀ w ∈ wsX70, w ∈ wp_X7_store := wi_X7_store_X7
  have k_0 := hts (.fieldLink RX7 27 "SteadyMachine$Runner" "heap" "LSteadyMachine$Heap;") (by decide +kernel)
  have k_1 := hts (.constantLong RX7 153 (4294967296)) (by decide +kernel)
  have k_2 := hts (.fieldLink RX7 229 "SteadyMachine$Runner" "lacking" "I") (by decide +kernel)
  have k_3 := hts (.fieldLink RX7 46 "SteadyMachine$Runner" "height" "I") (by decide +kernel)
  have hl := lv_entry ([.ref (α.1 7), .int p1, .int p2]) (n := 7) (Nat.le_of_ble_eq_true rfl)
  rw [lg_entry_eq]
  generalize (lg_sl ([.ref (α.1 7), .int p1, .int p2]) ++ List.replicate (7 - (lg_sl ([.ref (α.1 7), .int p1, .int p2])).length) Slot.unset).toArray = ls at hl ⊢
  have hl : lv_has ls 7 [(0, .ref (α.1 7)), (1, .int p1), (2, .int p2)] := hl
  have B116 : ∀ (σ : sm_S) (x2 : Int32) (x4 : Int32) (x5 : Int32) (y1 : Int32) (y2 : Int64) (y3 : Int64), mp_X7_store_116 K σ x2 x4 x5 y1 y2 y3 → sm_J p l e (headSpec wp_X7_store { frames := 4, cells := 0, slots := 0, locals := 93 }).room s m ([.ref (α.1 7), .int p1, .int p2] : List Value).toArray below meth c (MQ below (va_Qi K (sm_B sm_wX D α) A) ([.ref (α.1 7), .int p1, .int p2] : List Value).toArray s 0 0 A) D A 7 (sm_wX σ α) 116 [(0, .ref (α.1 7)), (2, .int x2), (4, .int x4), (5, .int x5)] [.long y3, .long y2, .int y1, .ref (α.1 7)] := by
    intro σ x2 x4 x5 y1 y2 y3 hF H locs ls hP hS hl
    unfold mp_X7_store_116 at hF
    refine sm_vv (As := [.int y1, .long y2, .long y3]) (rest := []) hP hK hD hE hS hA ⟨hx, hb, hml, hown, hts⟩ hl.1 (c_X7_fill l D H.size t0 σ α y1 y2 y3 _ hF) (cwV 3 hts wg_X7_store_X7_fill_225 rfl rfl rfl (by decide +kernel) ⟨Nat.le_of_ble_eq_true rfl, Nat.le_of_ble_eq_true rfl⟩) (va_recv hK hP (ci := 7) (q0 := 7) rfl (sm_gX7 σ α)) rfl rfl (Nat.le_of_ble_eq_true rfl) dX7_store_116 ⟨Nat.zero_le _, Nat.zero_le _⟩ (fun σ1 H locs hF hP hS => ?_)
    refine lv_aload_n hx hb dX7_store_119 rfl (lv_at hl 0 rfl) ?_
    refine va_get (D := D) (ci := 7) (v := .ref (α.1 1)) (C := RX7) (T := TX7) (N := 13) hx hb hts in_X7 hown hK hP 7 (sm_gX7 σ1 α) rfl 3 (by decide) k_0 (fun _ h9 => h9) rfl dX7_store_120 ?_
    refine lv_aload_n hx hb dX7_store_123 rfl (lv_at hl 0 rfl) ?_
    refine lv_iload hx hb dX7_store_124 (lv_at hl 3 rfl) ?_
    refine lv_iload_n hx hb dX7_store_126 rfl (lv_at hl 1 rfl) ?_
    refine sm_vi (As := [.int x5, .int x2]) (rest := [.ref (α.1 1)]) hP hK hD hE hS hA ⟨hx, hb, hml, hown, hts⟩ hl.1 (c_X7_find l D H.size t0 σ1 α x5 x2 _ hF) (cwV 2 hts wg_X7_store_X7_find_232 rfl rfl rfl (by decide +kernel) ⟨Nat.le_of_ble_eq_true rfl, Nat.le_of_ble_eq_true rfl⟩) (va_recv hK hP (ci := 7) (q0 := 7) rfl (sm_gX7 σ1 α)) rfl rfl (Nat.le_of_ble_eq_true rfl) dX7_store_127 ⟨Nat.zero_le _, Nat.zero_le _⟩ (fun r3 σ2 H locs hF hP hS => ?_)
    refine lv_iconst (v := 1) hx hb dX7_store_130 (by decide) ?_
    refine lv_iload hx hb dX7_store_131 (lv_at hl 2 rfl) ?_
    refine sm_sl (As := [.int 1, .int x4]) (rest := [.int r3, .ref (α.1 1)]) hP hK hD hE hS hA ⟨hx, hb, hml, hown, hts⟩ hl.1 (c_X1_cell l D H.size t0 σ2 α 1 x4 _ hF) (va_cwS 2 hts wg_X7_store_X1_cell_139 rfl rfl rfl (by decide +kernel) ⟨Nat.le_of_ble_eq_true rfl, Nat.le_of_ble_eq_true rfl⟩) rfl rfl (Nat.le_of_ble_eq_true rfl) dX7_store_133 ⟨Nat.zero_le _, Nat.zero_le _⟩ (fun r5 σ4 H locs hF hP hS => ?_)
    refine sm_vv (As := [.int r3, .long r5]) (rest := []) hP hK hD hE hS hA ⟨hx, hb, hml, hown, hts⟩ hl.1 (c_X1_put l D H.size t0 σ4 α r3 r5 _ hF) (cwV 2 hts wg_X7_store_X1_put_110 rfl rfl rfl (by decide +kernel) ⟨Nat.le_of_ble_eq_true rfl, Nat.le_of_ble_eq_true rfl⟩) (va_recv hK hP (ci := 1) (q0 := 1) rfl (sm_gX1 σ4 α)) rfl rfl (Nat.le_of_ble_eq_true rfl) dX7_store_136 ⟨Nat.zero_le _, Nat.zero_le _⟩ (fun σ6 H locs hF hP hS => ?_)
    refine lv_bipush (v := -2) hx hb dX7_store_139 (by decide) ?_
    exact W.iret (v := (-2)) hx hb hr (fun t ht hW => ⟨⟨(-2), σ6, rfl, hF, (by unfold sm_B; rw [ht]; exact hP)⟩, hS.F ht⟩) hS.2.2 dX7_store_141
  have B94 : ∀ (σ : sm_S) (x2 : Int32) (x4 : Int32) (x5 : Int32) (y0 : Int32), mp_X7_store_94 K σ x2 x4 x5 y0 → sm_J p l e (headSpec wp_X7_store { frames := 4, cells := 0, slots := 0, locals := 93 }).room s m ([.ref (α.1 7), .int p1, .int p2] : List Value).toArray below meth c (MQ below (va_Qi K (sm_B sm_wX D α) A) ([.ref (α.1 7), .int p1, .int p2] : List Value).toArray s 0 0 A) D A 7 (sm_wX σ α) 94 [(0, .ref (α.1 7)), (2, .int x2), (4, .int x4), (5, .int x5)] [.int y0] := by
    intro σ x2 x4 x5 y0 hF H locs ls hP hS hl
    unfold mp_X7_store_94 at hF
    refine lv_istore (lv' := [(6, .int y0), (0, .ref (α.1 7)), (2, .int x2), (4, .int x4), (5, .int x5)]) hx hb dX7_store_94 hl (by decide) rfl (fun ls hl => ?_)
    refine lv_aload_n hx hb dX7_store_96 rfl (lv_at hl 1 rfl) ?_
    refine lv_iload hx hb dX7_store_97 (lv_at hl 3 rfl) ?_
    refine lv_iconst (v := 4) hx hb dX7_store_99 (by decide) ?_
    refine lv_iconst (v := 0) hx hb dX7_store_100 (by decide) ?_
    refine sm_sl (As := [.int 4, .int 0]) (rest := [.int x4, .ref (α.1 7)]) hP hK hD hE hS hA ⟨hx, hb, hml, hown, hts⟩ hl.1 (c_X1_cell l D H.size t0 σ α 4 0 _ hF) (va_cwS 2 hts wg_X7_store_X1_cell_139 rfl rfl rfl (by decide +kernel) ⟨Nat.le_of_ble_eq_true rfl, Nat.le_of_ble_eq_true rfl⟩) rfl rfl (Nat.le_of_ble_eq_true rfl) dX7_store_101 ⟨Nat.zero_le _, Nat.zero_le _⟩ (fun r8 σ7 H locs hF hP hS => ?_)
    refine lv_iload hx hb dX7_store_104 (lv_at hl 0 rfl) ?_
    refine lv_if_eq (tgt := 113) hx hb dX7_store_106 (by decide) (fun h9 => ?_) (fun h9 => ?_)
    · replace hF := hF.1 h9
      refine lv_ldc2 (v := 4294967296) hx hb hown k_1 dX7_store_113 ?_
      exact B116 σ7 x2 x4 x5 x4 r8 4294967296 hF H locs ls hP hS (lv_sub hl [1, 2, 3, 4] rfl)
    · replace hF := hF.2 h9
      refine lv_lconst (v := 0) hx hb dX7_store_109 (by decide) ?_
      refine lv_goto (tgt := 116) hx hb dX7_store_110 (by decide) ?_
      exact B116 σ7 x2 x4 x5 x4 r8 0 hF H locs ls hP hS (lv_sub hl [1, 2, 3, 4] rfl)
  have B93 : ∀ (σ : sm_S) (x2 : Int32) (x4 : Int32) (x5 : Int32), mp_X7_store_93 K σ x2 x4 x5 → sm_J p l e (headSpec wp_X7_store { frames := 4, cells := 0, slots := 0, locals := 93 }).room s m ([.ref (α.1 7), .int p1, .int p2] : List Value).toArray below meth c (MQ below (va_Qi K (sm_B sm_wX D α) A) ([.ref (α.1 7), .int p1, .int p2] : List Value).toArray s 0 0 A) D A 7 (sm_wX σ α) 93 [(0, .ref (α.1 7)), (2, .int x2), (4, .int x4), (5, .int x5)] [] := by
    intro σ x2 x4 x5 hF H locs ls hP hS hl
    unfold mp_X7_store_93 at hF
    refine lv_iconst (v := 0) hx hb dX7_store_93 (by decide) ?_
    exact B94 σ x2 x4 x5 0 hF H locs ls hP hS (lv_sub hl [0, 1, 2, 3] rfl)
  unfold mp_X7_store at hF
  revert hP hS
  generalize hLo : ([] : List Loc) = locs
  suffices h9 : ∀ (H : Heap) (locs : List Loc), va_P D vwCl (sm_wX σ α) H → va_S A s.heap H locs → W p l e (headSpec wp_X7_store { frames := 4, cells := 0, slots := 0, locals := 93 }).room s m ([.ref (α.1 7), .int p1, .int p2] : List Value).toArray below meth c H locs 0 0 (MQ below (va_Qi K (sm_B sm_wX D α) A) ([.ref (α.1 7), .int p1, .int p2] : List Value).toArray s 0 0 A) (F0 m 0 ls []) from fun hP hS => h9 s.heap locs hP hS
  intro H locs hP hS
  refine lv_aload_n hx hb dX7_store_0 rfl (lv_at hl 0 rfl) ?_
  refine lv_iload_n hx hb dX7_store_1 rfl (lv_at hl 1 rfl) ?_
  refine lv_iload_n hx hb dX7_store_2 rfl (lv_at hl 2 rfl) ?_
  refine sm_vi (As := [.int p1, .int p2]) (rest := []) hP hK hD hE hS hA ⟨hx, hb, hml, hown, hts⟩ hl.1 (c_X7_find l D H.size t0 σ α p1 p2 _ hF) (cwV 2 hts wg_X7_store_X7_find_232 rfl rfl rfl (by decide +kernel) ⟨Nat.le_of_ble_eq_true rfl, Nat.le_of_ble_eq_true rfl⟩) (va_recv hK hP (ci := 7) (q0 := 7) rfl (sm_gX7 σ α)) rfl rfl (Nat.le_of_ble_eq_true rfl) dX7_store_3 ⟨Nat.zero_le _, Nat.zero_le _⟩ (fun r11 σ10 H locs hF hP hS => ?_)
  refine lv_istore_n (lv' := [(3, .int r11), (0, .ref (α.1 7)), (1, .int p1), (2, .int p2)]) hx hb dX7_store_6 rfl hl (by decide) rfl (fun ls hl => ?_)
  refine lv_aload_n hx hb dX7_store_7 rfl (lv_at hl 1 rfl) ?_
  refine va_get (D := D) (ci := 7) (v := .int (σ10.1 28)) (C := RX7) (T := TX7) (N := 13) hx hb hts in_X7 hown hK hP 7 (sm_gX7 σ10 α) rfl 12 (by decide) k_2 (fun _ h9 => h9) rfl dX7_store_8 ?_
  refine lv_if_ne (tgt := 38) hx hb dX7_store_11 (by decide) (fun h12 => ?_) (fun h12 => ?_)
  · replace hF := hF.1 h12
    refine lv_aload_n hx hb dX7_store_38 rfl (lv_at hl 1 rfl) ?_
    refine va_get (D := D) (ci := 7) (v := .ref (α.1 1)) (C := RX7) (T := TX7) (N := 13) hx hb hts in_X7 hown hK hP 7 (sm_gX7 σ10 α) rfl 3 (by decide) k_0 (fun _ h9 => h9) rfl dX7_store_39 ?_
    refine lv_bipush (v := 16) hx hb dX7_store_42 (by decide) ?_
    refine sm_vi (As := [.int 16]) (rest := []) hP hK hD hE hS hA ⟨hx, hb, hml, hown, hts⟩ hl.1 (c_X1_make l D H.size t0 σ10 α 16 _ hF) (cwV 1 hts wg_X7_store_X1_make_200 rfl rfl rfl (by decide +kernel) ⟨Nat.le_of_ble_eq_true rfl, Nat.le_of_ble_eq_true rfl⟩) (va_recv hK hP (ci := 1) (q0 := 1) rfl (sm_gX1 σ10 α)) rfl rfl (Nat.le_of_ble_eq_true rfl) dX7_store_44 ⟨Nat.zero_le _, Nat.zero_le _⟩ (fun r14 σ13 H locs hF hP hS => ?_)
    refine lv_istore (lv' := [(4, .int r14), (3, .int r11), (0, .ref (α.1 7)), (1, .int p1), (2, .int p2)]) hx hb dX7_store_47 hl (by decide) rfl (fun ls hl => ?_)
    refine lv_iload hx hb dX7_store_49 (lv_at hl 0 rfl) ?_
    refine lv_if_ne (tgt := 57) hx hb dX7_store_51 (by decide) (fun h15 => ?_) (fun h15 => ?_)
    · replace hF := hF.1 h15
      refine lv_aload_n hx hb dX7_store_57 rfl (lv_at hl 2 rfl) ?_
      refine lv_iconst (v := 2) hx hb dX7_store_58 (by decide) ?_
      refine sm_vl (As := [.int 2]) (rest := []) hP hK hD hE hS hA ⟨hx, hb, hml, hown, hts⟩ hl.1 (c_X7_below l D H.size t0 σ13 α 2 _ hF) (cwV 1 hts wg_X7_store_X7_below_159 rfl rfl rfl (by decide +kernel) ⟨Nat.le_of_ble_eq_true rfl, Nat.le_of_ble_eq_true rfl⟩) (va_recv hK hP (ci := 7) (q0 := 7) rfl (sm_gX7 σ13 α)) rfl rfl (Nat.le_of_ble_eq_true rfl) dX7_store_59 ⟨Nat.zero_le _, Nat.zero_le _⟩ (fun r17 σ16 H locs hF hP hS => ?_)
      refine lv_l2i hx hb dX7_store_62 rfl ?_
      refine lv_istore (lv' := [(5, .int r17.toInt32), (4, .int r14), (3, .int r11), (0, .ref (α.1 7)), (1, .int p1), (2, .int p2)]) hx hb dX7_store_63 hl (by decide) rfl (fun ls hl => ?_)
      refine lv_aload_n hx hb dX7_store_65 rfl (lv_at hl 3 rfl) ?_
      refine va_get (D := D) (ci := 7) (v := .int (σ16.1 28)) (C := RX7) (T := TX7) (N := 13) hx hb hts in_X7 hown hK hP 7 (sm_gX7 σ16 α) rfl 12 (by decide) k_2 (fun _ h9 => h9) rfl dX7_store_66 ?_
      refine lv_bipush (v := 15) hx hb dX7_store_69 (by decide) ?_
      refine lv_icmp_ne (tgt := 93) hx hb dX7_store_71 (by decide) (fun h18 => ?_) (fun h18 => ?_)
      · replace hF := hF.1 h18
        exact B93 σ16 p2 r14 r17.toInt32 hF H locs ls hP hS (lv_sub hl [3, 5, 1, 0] rfl)
      · replace hF := hF.2 h18
        refine lv_aload_n hx hb dX7_store_74 rfl (lv_at hl 3 rfl) ?_
        refine va_get (D := D) (ci := 7) (v := .ref (α.1 1)) (C := RX7) (T := TX7) (N := 13) hx hb hts in_X7 hown hK hP 7 (sm_gX7 σ16 α) rfl 3 (by decide) k_0 (fun _ h9 => h9) rfl dX7_store_75 ?_
        refine lv_iload hx hb dX7_store_78 (lv_at hl 0 rfl) ?_
        refine sm_vl (As := [.int r17.toInt32]) (rest := []) hP hK hD hE hS hA ⟨hx, hb, hml, hown, hts⟩ hl.1 (c_X1_look l D H.size t0 σ16 α r17.toInt32 _ hF) (cwV 1 hts wg_X7_store_X1_look_120 rfl rfl rfl (by decide +kernel) ⟨Nat.le_of_ble_eq_true rfl, Nat.le_of_ble_eq_true rfl⟩) (va_recv hK hP (ci := 1) (q0 := 1) rfl (sm_gX1 σ16 α)) rfl rfl (Nat.le_of_ble_eq_true rfl) dX7_store_80 ⟨Nat.zero_le _, Nat.zero_le _⟩ (fun r20 σ19 H locs hF hP hS => ?_)
        refine sm_si (As := [.long r20]) (rest := []) hP hK hD hE hS hA ⟨hx, hb, hml, hown, hts⟩ hl.1 (c_X1_rowItem l D H.size t0 σ19 α r20 _ hF) (va_cwS 1 hts wg_X7_store_X1_rowItem_235 rfl rfl rfl (by decide +kernel) ⟨Nat.le_of_ble_eq_true rfl, Nat.le_of_ble_eq_true rfl⟩) rfl rfl (Nat.le_of_ble_eq_true rfl) dX7_store_83 ⟨Nat.zero_le _, Nat.zero_le _⟩ (fun r22 σ21 H locs hF hP hS => ?_)
        refine lv_if_ne (tgt := 93) hx hb dX7_store_86 (by decide) (fun h23 => ?_) (fun h23 => ?_)
        · replace hF := hF.1 h23
          exact B93 σ21 p2 r14 r17.toInt32 hF H locs ls hP hS (lv_sub hl [3, 5, 1, 0] rfl)
        · replace hF := hF.2 h23
          refine lv_iconst (v := 1) hx hb dX7_store_89 (by decide) ?_
          refine lv_goto (tgt := 94) hx hb dX7_store_90 (by decide) ?_
          exact B94 σ21 p2 r14 r17.toInt32 1 hF H locs ls hP hS (lv_sub hl [3, 5, 1, 0] rfl)
    · replace hF := hF.2 h15
      refine lv_bipush (v := -3) hx hb dX7_store_54 (by decide) ?_
      exact W.iret (v := (-3)) hx hb hr (fun t ht hW => ⟨⟨(-3), σ13, rfl, hF, (by unfold sm_B; rw [ht]; exact hP)⟩, hS.F ht⟩) hS.2.2 dX7_store_56
  · replace hF := hF.2 h12
    refine lv_aload_n hx hb dX7_store_14 rfl (lv_at hl 1 rfl) ?_
    refine va_get (D := D) (ci := 7) (v := .ref (α.1 1)) (C := RX7) (T := TX7) (N := 13) hx hb hts in_X7 hown hK hP 7 (sm_gX7 σ10 α) rfl 3 (by decide) k_0 (fun _ h9 => h9) rfl dX7_store_15 ?_
    refine lv_iload_n hx hb dX7_store_18 rfl (lv_at hl 0 rfl) ?_
    refine lv_aload_n hx hb dX7_store_19 rfl (lv_at hl 1 rfl) ?_
    refine sm_vl (As := []) (rest := [.int r11, .ref (α.1 1)]) hP hK hD hE hS hA ⟨hx, hb, hml, hown, hts⟩ hl.1 (c_X7_pop l D H.size t0 σ10 α _ hF) (cwV 0 hts wg_X7_store_X7_pop_155 rfl rfl rfl (by decide +kernel) ⟨Nat.le_of_ble_eq_true rfl, Nat.le_of_ble_eq_true rfl⟩) (va_recv hK hP (ci := 7) (q0 := 7) rfl (sm_gX7 σ10 α)) rfl rfl (Nat.le_of_ble_eq_true rfl) dX7_store_20 ⟨Nat.zero_le _, Nat.zero_le _⟩ (fun r25 σ24 H locs hF hP hS => ?_)
    refine sm_vv (As := [.int r11, .long r25]) (rest := []) hP hK hD hE hS hA ⟨hx, hb, hml, hown, hts⟩ hl.1 (c_X1_change l D H.size t0 σ24 α r11 r25 _ hF) (cwV 2 hts wg_X7_store_X1_change_182 rfl rfl rfl (by decide +kernel) ⟨Nat.le_of_ble_eq_true rfl, Nat.le_of_ble_eq_true rfl⟩) (va_recv hK hP (ci := 1) (q0 := 1) rfl (sm_gX1 σ24 α)) rfl rfl (Nat.le_of_ble_eq_true rfl) dX7_store_23 ⟨Nat.zero_le _, Nat.zero_le _⟩ (fun σ26 H locs hF hP hS => ?_)
    refine lv_aload_n hx hb dX7_store_26 rfl (lv_at hl 1 rfl) ?_
    refine lv_dup hx hb dX7_store_27 rfl ?_
    refine va_get (D := D) (ci := 7) (v := .int (σ26.1 27)) (C := RX7) (T := TX7) (N := 13) hx hb hts in_X7 hown hK hP 7 (sm_gX7 σ26 α) rfl 11 (by decide) k_3 (fun _ h9 => h9) rfl dX7_store_28 ?_
    refine lv_iconst (v := 2) hx hb dX7_store_31 (by decide) ?_
    refine lv_isub hx hb dX7_store_32 ?_
    refine va_put (D := D) (ci := 7) (v := .int ((σ26.1 27) - 2)) (ty := .int) (C := RX7) (T := TX7) (N := 13) hx hb hts in_X7 tyX7 tyX7_ok nmX7 hown hK hP (hD.to (sm_wX_m _ _)) hS 7 (sm_gX7 σ26 α) rfl 11 (by decide) k_3 (fun _ h9 => h9) rfl (by decide +kernel) rfl rfl (Nat.le_of_ble_eq_true rfl) dX7_store_33 (fun H locs hP _ hS => ?_)
    rw [sm_iX27] at hP
    obtain ⟨σ27, eσ27⟩ : ∃ x : sm_S, x = sm_i σ26 27 ((σ26.1 27) - 2) := ⟨_, rfl⟩
    replace hF := hF σ27 eσ27
    rw [← eσ27] at hP
    refine lv_iconst (v := -1) hx hb dX7_store_36 (by decide) ?_
    exact W.iret (v := (-1)) hx hb hr (fun t ht hW => ⟨⟨(-1), σ27, rfl, hF, (by unfold sm_B; rw [ht]; exact hP)⟩, hS.F ht⟩) hS.2.2 dX7_store_37
theorem dX7_useRow_0 : decode cX7_useRow 0 = .ok (.iload_n 1, 1) := by decide +kernel
theorem dX7_useRow_1 : decode cX7_useRow 1 = .ok (.bipush 31, 2) := by decide +kernel
theorem dX7_useRow_3 : decode cX7_useRow 3 = .ok (.if_icmp .ne 19, 3) := by decide +kernel
theorem dX7_useRow_6 : decode cX7_useRow 6 = .ok (.aload_n 0, 1) := by decide +kernel
theorem dX7_useRow_7 : decode cX7_useRow 7 = .ok (.aload_n 0, 1) := by decide +kernel
theorem dX7_useRow_8 : decode cX7_useRow 8 = .ok (.iconst 1, 1) := by decide +kernel
theorem dX7_useRow_9 : decode cX7_useRow 9 = .ok (.invokevirtual 72, 3) := by decide +kernel
theorem dX7_useRow_12 : decode cX7_useRow 12 = .ok (.aload_n 0, 1) := by decide +kernel
theorem dX7_useRow_13 : decode cX7_useRow 13 = .ok (.iconst 0, 1) := by decide +kernel
theorem dX7_useRow_14 : decode cX7_useRow 14 = .ok (.invokevirtual 159, 3) := by decide +kernel
theorem dX7_useRow_17 : decode cX7_useRow 17 = .ok (.l2i, 1) := by decide +kernel
theorem dX7_useRow_18 : decode cX7_useRow 18 = .ok (.invokevirtual 209, 3) := by decide +kernel
theorem dX7_useRow_21 : decode cX7_useRow 21 = .ok (.ireturn, 1) := by decide +kernel
theorem dX7_useRow_22 : decode cX7_useRow 22 = .ok (.iload_n 1, 1) := by decide +kernel
theorem dX7_useRow_23 : decode cX7_useRow 23 = .ok (.bipush 32, 2) := by decide +kernel
theorem dX7_useRow_25 : decode cX7_useRow 25 = .ok (.if_icmp .ne 7, 3) := by decide +kernel
theorem dX7_useRow_28 : decode cX7_useRow 28 = .ok (.iconst 0, 1) := by decide +kernel
theorem dX7_useRow_29 : decode cX7_useRow 29 = .ok (.goto 14, 3) := by decide +kernel
theorem dX7_useRow_32 : decode cX7_useRow 32 = .ok (.iload_n 1, 1) := by decide +kernel
theorem dX7_useRow_33 : decode cX7_useRow 33 = .ok (.bipush 33, 2) := by decide +kernel
theorem dX7_useRow_35 : decode cX7_useRow 35 = .ok (.if_icmp .ne 7, 3) := by decide +kernel
theorem dX7_useRow_38 : decode cX7_useRow 38 = .ok (.iconst 1, 1) := by decide +kernel
theorem dX7_useRow_39 : decode cX7_useRow 39 = .ok (.goto 4, 3) := by decide +kernel
theorem dX7_useRow_42 : decode cX7_useRow 42 = .ok (.iconst 2, 1) := by decide +kernel
theorem dX7_useRow_43 : decode cX7_useRow 43 = .ok (.istore_n 2, 1) := by decide +kernel
theorem dX7_useRow_44 : decode cX7_useRow 44 = .ok (.aload_n 0, 1) := by decide +kernel
theorem dX7_useRow_45 : decode cX7_useRow 45 = .ok (.iload_n 2, 1) := by decide +kernel
theorem dX7_useRow_46 : decode cX7_useRow 46 = .ok (.invokevirtual 159, 3) := by decide +kernel
theorem dX7_useRow_49 : decode cX7_useRow 49 = .ok (.l2i, 1) := by decide +kernel
theorem dX7_useRow_50 : decode cX7_useRow 50 = .ok (.istore_n 3, 1) := by decide +kernel
theorem dX7_useRow_51 : decode cX7_useRow 51 = .ok (.iload_n 3, 1) := by decide +kernel
theorem dX7_useRow_52 : decode cX7_useRow 52 = .ok (.ifCond .ne 5, 3) := by decide +kernel
theorem dX7_useRow_55 : decode cX7_useRow 55 = .ok (.iconst 0, 1) := by decide +kernel
theorem dX7_useRow_56 : decode cX7_useRow 56 = .ok (.ireturn, 1) := by decide +kernel
theorem dX7_useRow_57 : decode cX7_useRow 57 = .ok (.aload_n 0, 1) := by decide +kernel
theorem dX7_useRow_58 : decode cX7_useRow 58 = .ok (.getfield 27, 3) := by decide +kernel
theorem dX7_useRow_61 : decode cX7_useRow 61 = .ok (.iload_n 3, 1) := by decide +kernel
theorem dX7_useRow_62 : decode cX7_useRow 62 = .ok (.invokevirtual 120, 3) := by decide +kernel
theorem dX7_useRow_65 : decode cX7_useRow 65 = .ok (.invokestatic 213, 3) := by decide +kernel
theorem dX7_useRow_68 : decode cX7_useRow 68 = .ok (.istore 4, 2) := by decide +kernel
theorem dX7_useRow_70 : decode cX7_useRow 70 = .ok (.iload_n 1, 1) := by decide +kernel
theorem dX7_useRow_71 : decode cX7_useRow 71 = .ok (.bipush 32, 2) := by decide +kernel
theorem dX7_useRow_73 : decode cX7_useRow 73 = .ok (.if_icmp .ne 20, 3) := by decide +kernel
theorem dX7_useRow_76 : decode cX7_useRow 76 = .ok (.aload_n 0, 1) := by decide +kernel
theorem dX7_useRow_77 : decode cX7_useRow 77 = .ok (.dup, 1) := by decide +kernel
theorem dX7_useRow_78 : decode cX7_useRow 78 = .ok (.getfield 46, 3) := by decide +kernel
theorem dX7_useRow_81 : decode cX7_useRow 81 = .ok (.iconst 1, 1) := by decide +kernel
theorem dX7_useRow_82 : decode cX7_useRow 82 = .ok (.isub, 1) := by decide +kernel
theorem dX7_useRow_83 : decode cX7_useRow 83 = .ok (.putfield 46, 3) := by decide +kernel
theorem dX7_useRow_86 : decode cX7_useRow 86 = .ok (.aload_n 0, 1) := by decide +kernel
theorem dX7_useRow_87 : decode cX7_useRow 87 = .ok (.iload 4, 2) := by decide +kernel
theorem dX7_useRow_89 : decode cX7_useRow 89 = .ok (.invokevirtual 150, 3) := by decide +kernel
theorem dX7_useRow_92 : decode cX7_useRow 92 = .ok (.ireturn, 1) := by decide +kernel
theorem dX7_useRow_93 : decode cX7_useRow 93 = .ok (.aload_n 0, 1) := by decide +kernel
theorem dX7_useRow_94 : decode cX7_useRow 94 = .ok (.iload_n 2, 1) := by decide +kernel
theorem dX7_useRow_95 : decode cX7_useRow 95 = .ok (.iconst 1, 1) := by decide +kernel
theorem dX7_useRow_96 : decode cX7_useRow 96 = .ok (.isub, 1) := by decide +kernel
theorem dX7_useRow_97 : decode cX7_useRow 97 = .ok (.invokevirtual 159, 3) := by decide +kernel
theorem dX7_useRow_100 : decode cX7_useRow 100 = .ok (.l2i, 1) := by decide +kernel
theorem dX7_useRow_101 : decode cX7_useRow 101 = .ok (.istore 5, 2) := by decide +kernel
theorem dX7_useRow_103 : decode cX7_useRow 103 = .ok (.iload 5, 2) := by decide +kernel
theorem dX7_useRow_105 : decode cX7_useRow 105 = .ok (.ifCond .lt 10, 3) := by decide +kernel
theorem dX7_useRow_108 : decode cX7_useRow 108 = .ok (.iload 5, 2) := by decide +kernel
theorem dX7_useRow_110 : decode cX7_useRow 110 = .ok (.iload 4, 2) := by decide +kernel
theorem dX7_useRow_112 : decode cX7_useRow 112 = .ok (.if_icmp .lt 5, 3) := by decide +kernel
theorem dX7_useRow_115 : decode cX7_useRow 115 = .ok (.iconst 1, 1) := by decide +kernel
theorem dX7_useRow_116 : decode cX7_useRow 116 = .ok (.ireturn, 1) := by decide +kernel
theorem dX7_useRow_117 : decode cX7_useRow 117 = .ok (.iload_n 1, 1) := by decide +kernel
theorem dX7_useRow_118 : decode cX7_useRow 118 = .ok (.bipush 33, 2) := by decide +kernel
theorem dX7_useRow_120 : decode cX7_useRow 120 = .ok (.if_icmp .ne 13, 3) := by decide +kernel
theorem dX7_useRow_123 : decode cX7_useRow 123 = .ok (.aload_n 0, 1) := by decide +kernel
theorem dX7_useRow_124 : decode cX7_useRow 124 = .ok (.iload_n 3, 1) := by decide +kernel
theorem dX7_useRow_125 : decode cX7_useRow 125 = .ok (.iload 5, 2) := by decide +kernel
theorem dX7_useRow_127 : decode cX7_useRow 127 = .ok (.invokevirtual 216, 3) := by decide +kernel
theorem dX7_useRow_130 : decode cX7_useRow 130 = .ok (.goto 10, 3) := by decide +kernel
theorem dX7_useRow_133 : decode cX7_useRow 133 = .ok (.aload_n 0, 1) := by decide +kernel
theorem dX7_useRow_134 : decode cX7_useRow 134 = .ok (.iload_n 3, 1) := by decide +kernel
theorem dX7_useRow_135 : decode cX7_useRow 135 = .ok (.iload 5, 2) := by decide +kernel
theorem dX7_useRow_137 : decode cX7_useRow 137 = .ok (.invokevirtual 219, 3) := by decide +kernel
theorem dX7_useRow_140 : decode cX7_useRow 140 = .ok (.ireturn, 1) := by decide +kernel
def wp_X7_useRow : List Cond := .code yX7_useRow cX7_useRow 6 (some .int) :: ((((((((([.fieldLink RX7 27 "SteadyMachine$Runner" "heap" "LSteadyMachine$Heap;", .fieldLink RX7 46 "SteadyMachine$Runner" "height" "I"] ++ (wsV RX7 159 RX7 yX7_below wp_X7_below)) ++ (wsV RX7 120 RX1 yX1_look wp_X1_look)) ++ (va_wsS RX7 213 yX1_rowLength wp_X1_rowLength)) ++ (wsV RX7 219 RX7 yX7_store wp_X7_store)) ++ (wsV RX7 216 RX7 yX7_fetch wp_X7_fetch)) ++ (wsV RX7 150 RX7 yX7_pushInt wp_X7_pushInt)) ++ (wsV RX7 72 RX7 yX7_operand wp_X7_operand)) ++ (wsV RX7 209 RX7 yX7_makeRow wp_X7_makeRow)) ++ wsX70)
theorem wq_X7_useRow : wp_X7_useRow.all goodWord = true := wa_c rfl (wa_a (wa_a (wa_a (wa_a (wa_a (wa_a (wa_a (wa_a (wa_a (by decide +kernel) (wa_V wq_X7_below)) (wa_V wq_X1_look)) (wa_S wq_X1_rowLength)) (wa_V wq_X7_store)) (wa_V wq_X7_fetch)) (wa_V wq_X7_pushInt)) (wa_V wq_X7_operand)) (wa_V wq_X7_makeRow)) uq_X7)
theorem wt_X7_useRow : GoodIn lw_tbl wp_X7_useRow := wm_c (List.mem_of_getElem? (i := 1034) (by decide +kernel)) rfl (wm_a (wm_a (wm_a (wm_a (wm_a (wm_a (wm_a (wm_a (wm_a (goodIn_r _ [515, 526] (by decide +kernel) (by decide +kernel)) (wm_a (goodIn_r _ [992, 994, 49, 145] (by decide +kernel) (by decide +kernel)) wt_X7_below)) (wm_a (goodIn_r _ [936, 911, 912, 144] (by decide +kernel) (by decide +kernel)) wt_X1_look)) (wm_a (goodIn_r _ [1046, 1047, 144] (by decide +kernel) (by decide +kernel)) wt_X1_rowLength)) (wm_a (goodIn_r _ [1060, 1062, 60, 145] (by decide +kernel) (by decide +kernel)) wt_X7_store)) (wm_a (goodIn_r _ [1049, 1051, 58, 145] (by decide +kernel) (by decide +kernel)) wt_X7_fetch)) (wm_a (goodIn_r _ [979, 981, 46, 145] (by decide +kernel) (by decide +kernel)) wt_X7_pushInt)) (wm_a (goodIn_r _ [965, 967, 44, 145] (by decide +kernel) (by decide +kernel)) wt_X7_operand)) (wm_a (goodIn_r _ [1035, 1037, 56, 145] (by decide +kernel) (by decide +kernel)) wt_X7_makeRow)) ut_X7)
theorem wg_X7_useRow_X7_below_159 : GoodIn wp_X7_useRow (wsV RX7 159 RX7 yX7_below wp_X7_below) := goodIn_sub (fun w h => List.mem_cons_of_mem _ (List.mem_append_left _ (List.mem_append_left _ (List.mem_append_left _ (List.mem_append_left _ (List.mem_append_left _ (List.mem_append_left _ (List.mem_append_left _ (List.mem_append_left _ (List.mem_append_right _ h)))))))))) (wa_V wq_X7_below)
theorem wg_X7_useRow_X1_look_120 : GoodIn wp_X7_useRow (wsV RX7 120 RX1 yX1_look wp_X1_look) := goodIn_sub (fun w h => List.mem_cons_of_mem _ (List.mem_append_left _ (List.mem_append_left _ (List.mem_append_left _ (List.mem_append_left _ (List.mem_append_left _ (List.mem_append_left _ (List.mem_append_left _ (List.mem_append_right _ h))))))))) (wa_V wq_X1_look)
theorem wg_X7_useRow_X1_rowLength_213 : GoodIn wp_X7_useRow (va_wsS RX7 213 yX1_rowLength wp_X1_rowLength) := goodIn_sub (fun w h => List.mem_cons_of_mem _ (List.mem_append_left _ (List.mem_append_left _ (List.mem_append_left _ (List.mem_append_left _ (List.mem_append_left _ (List.mem_append_left _ (List.mem_append_right _ h)))))))) (wa_S wq_X1_rowLength)
theorem wg_X7_useRow_X7_store_219 : GoodIn wp_X7_useRow (wsV RX7 219 RX7 yX7_store wp_X7_store) := goodIn_sub (fun w h => List.mem_cons_of_mem _ (List.mem_append_left _ (List.mem_append_left _ (List.mem_append_left _ (List.mem_append_left _ (List.mem_append_left _ (List.mem_append_right _ h))))))) (wa_V wq_X7_store)
theorem wg_X7_useRow_X7_fetch_216 : GoodIn wp_X7_useRow (wsV RX7 216 RX7 yX7_fetch wp_X7_fetch) := goodIn_sub (fun w h => List.mem_cons_of_mem _ (List.mem_append_left _ (List.mem_append_left _ (List.mem_append_left _ (List.mem_append_left _ (List.mem_append_right _ h)))))) (wa_V wq_X7_fetch)
theorem wg_X7_useRow_X7_pushInt_150 : GoodIn wp_X7_useRow (wsV RX7 150 RX7 yX7_pushInt wp_X7_pushInt) := goodIn_sub (fun w h => List.mem_cons_of_mem _ (List.mem_append_left _ (List.mem_append_left _ (List.mem_append_left _ (List.mem_append_right _ h))))) (wa_V wq_X7_pushInt)
theorem wg_X7_useRow_X7_operand_72 : GoodIn wp_X7_useRow (wsV RX7 72 RX7 yX7_operand wp_X7_operand) := goodIn_sub (fun w h => List.mem_cons_of_mem _ (List.mem_append_left _ (List.mem_append_left _ (List.mem_append_right _ h)))) (wa_V wq_X7_operand)
theorem wg_X7_useRow_X7_makeRow_209 : GoodIn wp_X7_useRow (wsV RX7 209 RX7 yX7_makeRow wp_X7_makeRow) := goodIn_sub (fun w h => List.mem_cons_of_mem _ (List.mem_append_left _ (List.mem_append_right _ h))) (wa_V wq_X7_makeRow)
theorem wi_X7_useRow_X7 : ∀ w ∈ wsX70, w ∈ wp_X7_useRow := fun w h => List.mem_cons_of_mem _ (List.mem_append_right _ h)
set_option maxHeartbeats 4000000 in
set_option maxRecDepth 100000 in
theorem c_X7_useRow (l : Launch) (D : va_G) (sz t0 : Nat) (σ : sm_S) (α : sm_A) (p1 : Int32) (K : Int32 → sm_S → Prop) (hF : mp_X7_useRow σ p1 K) : Met l yX7_useRow wp_X7_useRow { frames := 5, cells := 0, slots := 0, locals := 119 } (sm_P sm_wX sm_tX 37 D sz t0 σ α [.ref (α.1 7), .int p1]) (va_Qi K (sm_B sm_wX D α) (sm_a α 37 sz)) 0 0 (sm_a α 37 sz) := by
  refine Met.ofW (cc := cX7_useRow) (maxL := 6) (ret := (some .int)) (by decide) rfl ?_
  intro p e s m args below meth c s₁ B hml hv
  obtain ⟨rfl, hsz, hP, hK, hD0, hE⟩ := hv
  have hx := B.exec
  have hb := B.bytes
  have hr := B.returns
  have hts := atoms_spec (ws := wp_X7_useRow) B.pre
  have hown : s.vm.findClass RX7 = some m.cls := findClass_of_methodNamed B.named
  have hlocks := B.notSynchronized
  subst hsz
  have hD : sm_D (sm_a α 37 s.heap.size) α 37 := hD0.own
  have hA : ∀ q : Nat, s.heap.size ≤ q → sm_a α 37 s.heap.size q := fun q h => Or.inr h
  generalize hAe : sm_a α 37 s.heap.size = A at hD hA hE ⊢
  have hS : va_S A s.heap s.heap [] := va_S.rf
  have in_X7 : ∀ w ∈ wsX70, w ∈ wp_X7_useRow := wi_X7_useRow_X7
  have k_0 := hts (.fieldLink RX7 27 "SteadyMachine$Runner" "heap" "LSteadyMachine$Heap;") (by decide +kernel)
  have k_1 := hts (.fieldLink RX7 46 "SteadyMachine$Runner" "height" "I") (by decide +kernel)
  have hl := lv_entry ([.ref (α.1 7), .int p1]) (n := 6) (Nat.le_of_ble_eq_true rfl)
  rw [lg_entry_eq]
  generalize (lg_sl ([.ref (α.1 7), .int p1]) ++ List.replicate (6 - (lg_sl ([.ref (α.1 7), .int p1])).length) Slot.unset).toArray = ls at hl ⊢
  have hl : lv_has ls 6 [(0, .ref (α.1 7)), (1, .int p1)] := hl
  have B140 : ∀ (σ : sm_S) (y0 : Int32), mp_X7_useRow_140 K σ y0 → sm_J p l e (headSpec wp_X7_useRow { frames := 5, cells := 0, slots := 0, locals := 119 }).room s m ([.ref (α.1 7), .int p1] : List Value).toArray below meth c (MQ below (va_Qi K (sm_B sm_wX D α) A) ([.ref (α.1 7), .int p1] : List Value).toArray s 0 0 A) D A 6 (sm_wX σ α) 140 [] [.int y0] := by
    intro σ y0 hF H locs ls hP hS hl
    unfold mp_X7_useRow_140 at hF
    exact W.iret (v := y0) hx hb hr (fun t ht hW => ⟨⟨y0, σ, rfl, hF, (by unfold sm_B; rw [ht]; exact hP)⟩, hS.F ht⟩) hS.2.2 dX7_useRow_140
  have B115 : ∀ (σ : sm_S), mp_X7_useRow_115 K σ → sm_J p l e (headSpec wp_X7_useRow { frames := 5, cells := 0, slots := 0, locals := 119 }).room s m ([.ref (α.1 7), .int p1] : List Value).toArray below meth c (MQ below (va_Qi K (sm_B sm_wX D α) A) ([.ref (α.1 7), .int p1] : List Value).toArray s 0 0 A) D A 6 (sm_wX σ α) 115 [] [] := by
    intro σ hF H locs ls hP hS hl
    unfold mp_X7_useRow_115 at hF
    refine lv_iconst (v := 1) hx hb dX7_useRow_115 (by decide) ?_
    exact W.iret (v := 1) hx hb hr (fun t ht hW => ⟨⟨1, σ, rfl, hF, (by unfold sm_B; rw [ht]; exact hP)⟩, hS.F ht⟩) hS.2.2 dX7_useRow_116
  have B43 : ∀ (σ : sm_S) (x1 : Int32) (y0 : Int32), mp_X7_useRow_43 K σ x1 y0 → sm_J p l e (headSpec wp_X7_useRow { frames := 5, cells := 0, slots := 0, locals := 119 }).room s m ([.ref (α.1 7), .int p1] : List Value).toArray below meth c (MQ below (va_Qi K (sm_B sm_wX D α) A) ([.ref (α.1 7), .int p1] : List Value).toArray s 0 0 A) D A 6 (sm_wX σ α) 43 [(0, .ref (α.1 7)), (1, .int x1)] [.int y0] := by
    intro σ x1 y0 hF H locs ls hP hS hl
    unfold mp_X7_useRow_43 at hF
    refine lv_istore_n (lv' := [(2, .int y0), (0, .ref (α.1 7)), (1, .int x1)]) hx hb dX7_useRow_43 rfl hl (by decide) rfl (fun ls hl => ?_)
    refine lv_aload_n hx hb dX7_useRow_44 rfl (lv_at hl 1 rfl) ?_
    refine lv_iload_n hx hb dX7_useRow_45 rfl (lv_at hl 0 rfl) ?_
    refine sm_vl (As := [.int y0]) (rest := []) hP hK hD hE hS hA ⟨hx, hb, hml, hown, hts⟩ hl.1 (c_X7_below l D H.size t0 σ α y0 _ hF) (cwV 1 hts wg_X7_useRow_X7_below_159 rfl rfl rfl (by decide +kernel) ⟨Nat.le_of_ble_eq_true rfl, Nat.le_of_ble_eq_true rfl⟩) (va_recv hK hP (ci := 7) (q0 := 7) rfl (sm_gX7 σ α)) rfl rfl (Nat.le_of_ble_eq_true rfl) dX7_useRow_46 ⟨Nat.zero_le _, Nat.zero_le _⟩ (fun r2 σ1 H locs hF hP hS => ?_)
    refine lv_l2i hx hb dX7_useRow_49 rfl ?_
    refine lv_istore_n (lv' := [(3, .int r2.toInt32), (2, .int y0), (0, .ref (α.1 7)), (1, .int x1)]) hx hb dX7_useRow_50 rfl hl (by decide) rfl (fun ls hl => ?_)
    refine lv_iload_n hx hb dX7_useRow_51 rfl (lv_at hl 0 rfl) ?_
    refine lv_if_ne (tgt := 57) hx hb dX7_useRow_52 (by decide) (fun h3 => ?_) (fun h3 => ?_)
    · replace hF := hF.1 h3
      refine lv_aload_n hx hb dX7_useRow_57 rfl (lv_at hl 2 rfl) ?_
      refine va_get (D := D) (ci := 7) (v := .ref (α.1 1)) (C := RX7) (T := TX7) (N := 13) hx hb hts in_X7 hown hK hP 7 (sm_gX7 σ1 α) rfl 3 (by decide) k_0 (fun _ h9 => h9) rfl dX7_useRow_58 ?_
      refine lv_iload_n hx hb dX7_useRow_61 rfl (lv_at hl 0 rfl) ?_
      refine sm_vl (As := [.int r2.toInt32]) (rest := []) hP hK hD hE hS hA ⟨hx, hb, hml, hown, hts⟩ hl.1 (c_X1_look l D H.size t0 σ1 α r2.toInt32 _ hF) (cwV 1 hts wg_X7_useRow_X1_look_120 rfl rfl rfl (by decide +kernel) ⟨Nat.le_of_ble_eq_true rfl, Nat.le_of_ble_eq_true rfl⟩) (va_recv hK hP (ci := 1) (q0 := 1) rfl (sm_gX1 σ1 α)) rfl rfl (Nat.le_of_ble_eq_true rfl) dX7_useRow_62 ⟨Nat.zero_le _, Nat.zero_le _⟩ (fun r5 σ4 H locs hF hP hS => ?_)
      refine sm_si (As := [.long r5]) (rest := []) hP hK hD hE hS hA ⟨hx, hb, hml, hown, hts⟩ hl.1 (c_X1_rowLength l D H.size t0 σ4 α r5 _ hF) (va_cwS 1 hts wg_X7_useRow_X1_rowLength_213 rfl rfl rfl (by decide +kernel) ⟨Nat.le_of_ble_eq_true rfl, Nat.le_of_ble_eq_true rfl⟩) rfl rfl (Nat.le_of_ble_eq_true rfl) dX7_useRow_65 ⟨Nat.zero_le _, Nat.zero_le _⟩ (fun r7 σ6 H locs hF hP hS => ?_)
      refine lv_istore (lv' := [(4, .int r7), (3, .int r2.toInt32), (2, .int y0), (0, .ref (α.1 7)), (1, .int x1)]) hx hb dX7_useRow_68 hl (by decide) rfl (fun ls hl => ?_)
      refine lv_iload_n hx hb dX7_useRow_70 rfl (lv_at hl 4 rfl) ?_
      refine lv_bipush (v := 32) hx hb dX7_useRow_71 (by decide) ?_
      refine lv_icmp_ne (tgt := 93) hx hb dX7_useRow_73 (by decide) (fun h8 => ?_) (fun h8 => ?_)
      · replace hF := hF.1 h8
        refine lv_aload_n hx hb dX7_useRow_93 rfl (lv_at hl 3 rfl) ?_
        refine lv_iload_n hx hb dX7_useRow_94 rfl (lv_at hl 2 rfl) ?_
        refine lv_iconst (v := 1) hx hb dX7_useRow_95 (by decide) ?_
        refine lv_isub hx hb dX7_useRow_96 ?_
        refine sm_vl (As := [.int (y0 - 1)]) (rest := []) hP hK hD hE hS hA ⟨hx, hb, hml, hown, hts⟩ hl.1 (c_X7_below l D H.size t0 σ6 α (y0 - 1) _ hF) (cwV 1 hts wg_X7_useRow_X7_below_159 rfl rfl rfl (by decide +kernel) ⟨Nat.le_of_ble_eq_true rfl, Nat.le_of_ble_eq_true rfl⟩) (va_recv hK hP (ci := 7) (q0 := 7) rfl (sm_gX7 σ6 α)) rfl rfl (Nat.le_of_ble_eq_true rfl) dX7_useRow_97 ⟨Nat.zero_le _, Nat.zero_le _⟩ (fun r10 σ9 H locs hF hP hS => ?_)
        refine lv_l2i hx hb dX7_useRow_100 rfl ?_
        refine lv_istore (lv' := [(5, .int r10.toInt32), (4, .int r7), (3, .int r2.toInt32), (2, .int y0), (0, .ref (α.1 7)), (1, .int x1)]) hx hb dX7_useRow_101 hl (by decide) rfl (fun ls hl => ?_)
        refine lv_iload hx hb dX7_useRow_103 (lv_at hl 0 rfl) ?_
        refine lv_if_lt (tgt := 115) hx hb dX7_useRow_105 (by decide) (fun h11 => ?_) (fun h11 => ?_)
        · replace hF := hF.1 h11
          exact B115 σ9 hF H locs ls hP hS (lv_sub hl [] rfl)
        · replace hF := hF.2 h11
          refine lv_iload hx hb dX7_useRow_108 (lv_at hl 0 rfl) ?_
          refine lv_iload hx hb dX7_useRow_110 (lv_at hl 1 rfl) ?_
          refine lv_icmp_lt (tgt := 117) hx hb dX7_useRow_112 (by decide) (fun h12 => ?_) (fun h12 => ?_)
          · replace hF := hF.1 h12
            refine lv_iload_n hx hb dX7_useRow_117 rfl (lv_at hl 5 rfl) ?_
            refine lv_bipush (v := 33) hx hb dX7_useRow_118 (by decide) ?_
            refine lv_icmp_ne (tgt := 133) hx hb dX7_useRow_120 (by decide) (fun h13 => ?_) (fun h13 => ?_)
            · replace hF := hF.1 h13
              refine lv_aload_n hx hb dX7_useRow_133 rfl (lv_at hl 4 rfl) ?_
              refine lv_iload_n hx hb dX7_useRow_134 rfl (lv_at hl 2 rfl) ?_
              refine lv_iload hx hb dX7_useRow_135 (lv_at hl 0 rfl) ?_
              refine sm_vi (As := [.int r2.toInt32, .int r10.toInt32]) (rest := []) hP hK hD hE hS hA ⟨hx, hb, hml, hown, hts⟩ hl.1 (c_X7_store l D H.size t0 σ9 α r2.toInt32 r10.toInt32 _ hF) (cwV 2 hts wg_X7_useRow_X7_store_219 rfl rfl rfl (by decide +kernel) ⟨Nat.le_of_ble_eq_true rfl, Nat.le_of_ble_eq_true rfl⟩) (va_recv hK hP (ci := 7) (q0 := 7) rfl (sm_gX7 σ9 α)) rfl rfl (Nat.le_of_ble_eq_true rfl) dX7_useRow_137 ⟨Nat.zero_le _, Nat.zero_le _⟩ (fun r15 σ14 H locs hF hP hS => ?_)
              exact B140 σ14 r15 hF H locs ls hP hS (lv_sub hl [] rfl)
            · replace hF := hF.2 h13
              refine lv_aload_n hx hb dX7_useRow_123 rfl (lv_at hl 4 rfl) ?_
              refine lv_iload_n hx hb dX7_useRow_124 rfl (lv_at hl 2 rfl) ?_
              refine lv_iload hx hb dX7_useRow_125 (lv_at hl 0 rfl) ?_
              refine sm_vi (As := [.int r2.toInt32, .int r10.toInt32]) (rest := []) hP hK hD hE hS hA ⟨hx, hb, hml, hown, hts⟩ hl.1 (c_X7_fetch l D H.size t0 σ9 α r2.toInt32 r10.toInt32 _ hF) (cwV 2 hts wg_X7_useRow_X7_fetch_216 rfl rfl rfl (by decide +kernel) ⟨Nat.le_of_ble_eq_true rfl, Nat.le_of_ble_eq_true rfl⟩) (va_recv hK hP (ci := 7) (q0 := 7) rfl (sm_gX7 σ9 α)) rfl rfl (Nat.le_of_ble_eq_true rfl) dX7_useRow_127 ⟨Nat.zero_le _, Nat.zero_le _⟩ (fun r17 σ16 H locs hF hP hS => ?_)
              refine lv_goto (tgt := 140) hx hb dX7_useRow_130 (by decide) ?_
              exact B140 σ16 r17 hF H locs ls hP hS (lv_sub hl [] rfl)
          · replace hF := hF.2 h12
            exact B115 σ9 hF H locs ls hP hS (lv_sub hl [] rfl)
      · replace hF := hF.2 h8
        refine lv_aload_n hx hb dX7_useRow_76 rfl (lv_at hl 3 rfl) ?_
        refine lv_dup hx hb dX7_useRow_77 rfl ?_
        refine va_get (D := D) (ci := 7) (v := .int (σ6.1 27)) (C := RX7) (T := TX7) (N := 13) hx hb hts in_X7 hown hK hP 7 (sm_gX7 σ6 α) rfl 11 (by decide) k_1 (fun _ h9 => h9) rfl dX7_useRow_78 ?_
        refine lv_iconst (v := 1) hx hb dX7_useRow_81 (by decide) ?_
        refine lv_isub hx hb dX7_useRow_82 ?_
        refine va_put (D := D) (ci := 7) (v := .int ((σ6.1 27) - 1)) (ty := .int) (C := RX7) (T := TX7) (N := 13) hx hb hts in_X7 tyX7 tyX7_ok nmX7 hown hK hP (hD.to (sm_wX_m _ _)) hS 7 (sm_gX7 σ6 α) rfl 11 (by decide) k_1 (fun _ h9 => h9) rfl (by decide +kernel) rfl rfl (Nat.le_of_ble_eq_true rfl) dX7_useRow_83 (fun H locs hP _ hS => ?_)
        rw [sm_iX27] at hP
        obtain ⟨σ18, eσ18⟩ : ∃ x : sm_S, x = sm_i σ6 27 ((σ6.1 27) - 1) := ⟨_, rfl⟩
        replace hF := hF σ18 eσ18
        rw [← eσ18] at hP
        refine lv_aload_n hx hb dX7_useRow_86 rfl (lv_at hl 3 rfl) ?_
        refine lv_iload hx hb dX7_useRow_87 (lv_at hl 0 rfl) ?_
        refine sm_vi (As := [.int r7]) (rest := []) hP hK hD hE hS hA ⟨hx, hb, hml, hown, hts⟩ hl.1 (c_X7_pushInt l D H.size t0 σ18 α r7 _ hF) (cwV 1 hts wg_X7_useRow_X7_pushInt_150 rfl rfl rfl (by decide +kernel) ⟨Nat.le_of_ble_eq_true rfl, Nat.le_of_ble_eq_true rfl⟩) (va_recv hK hP (ci := 7) (q0 := 7) rfl (sm_gX7 σ18 α)) rfl rfl (Nat.le_of_ble_eq_true rfl) dX7_useRow_89 ⟨Nat.zero_le _, Nat.zero_le _⟩ (fun r20 σ19 H locs hF hP hS => ?_)
        exact W.iret (v := r20) hx hb hr (fun t ht hW => ⟨⟨r20, σ19, rfl, hF, (by unfold sm_B; rw [ht]; exact hP)⟩, hS.F ht⟩) hS.2.2 dX7_useRow_92
    · replace hF := hF.2 h3
      refine lv_iconst (v := 0) hx hb dX7_useRow_55 (by decide) ?_
      exact W.iret (v := 0) hx hb hr (fun t ht hW => ⟨⟨0, σ1, rfl, hF, (by unfold sm_B; rw [ht]; exact hP)⟩, hS.F ht⟩) hS.2.2 dX7_useRow_56
  unfold mp_X7_useRow at hF
  revert hP hS
  generalize hLo : ([] : List Loc) = locs
  suffices h9 : ∀ (H : Heap) (locs : List Loc), va_P D vwCl (sm_wX σ α) H → va_S A s.heap H locs → W p l e (headSpec wp_X7_useRow { frames := 5, cells := 0, slots := 0, locals := 119 }).room s m ([.ref (α.1 7), .int p1] : List Value).toArray below meth c H locs 0 0 (MQ below (va_Qi K (sm_B sm_wX D α) A) ([.ref (α.1 7), .int p1] : List Value).toArray s 0 0 A) (F0 m 0 ls []) from fun hP hS => h9 s.heap locs hP hS
  intro H locs hP hS
  refine lv_iload_n hx hb dX7_useRow_0 rfl (lv_at hl 1 rfl) ?_
  refine lv_bipush (v := 31) hx hb dX7_useRow_1 (by decide) ?_
  refine lv_icmp_ne (tgt := 22) hx hb dX7_useRow_3 (by decide) (fun h21 => ?_) (fun h21 => ?_)
  · replace hF := hF.1 h21
    refine lv_iload_n hx hb dX7_useRow_22 rfl (lv_at hl 1 rfl) ?_
    refine lv_bipush (v := 32) hx hb dX7_useRow_23 (by decide) ?_
    refine lv_icmp_ne (tgt := 32) hx hb dX7_useRow_25 (by decide) (fun h22 => ?_) (fun h22 => ?_)
    · replace hF := hF.1 h22
      refine lv_iload_n hx hb dX7_useRow_32 rfl (lv_at hl 1 rfl) ?_
      refine lv_bipush (v := 33) hx hb dX7_useRow_33 (by decide) ?_
      refine lv_icmp_ne (tgt := 42) hx hb dX7_useRow_35 (by decide) (fun h23 => ?_) (fun h23 => ?_)
      · replace hF := hF.1 h23
        refine lv_iconst (v := 2) hx hb dX7_useRow_42 (by decide) ?_
        exact B43 σ p1 2 hF H locs ls hP hS (lv_sub hl [0, 1] rfl)
      · replace hF := hF.2 h23
        refine lv_iconst (v := 1) hx hb dX7_useRow_38 (by decide) ?_
        refine lv_goto (tgt := 43) hx hb dX7_useRow_39 (by decide) ?_
        exact B43 σ p1 1 hF H locs ls hP hS (lv_sub hl [0, 1] rfl)
    · replace hF := hF.2 h22
      refine lv_iconst (v := 0) hx hb dX7_useRow_28 (by decide) ?_
      refine lv_goto (tgt := 43) hx hb dX7_useRow_29 (by decide) ?_
      exact B43 σ p1 0 hF H locs ls hP hS (lv_sub hl [0, 1] rfl)
  · replace hF := hF.2 h21
    refine lv_aload_n hx hb dX7_useRow_6 rfl (lv_at hl 0 rfl) ?_
    refine lv_aload_n hx hb dX7_useRow_7 rfl (lv_at hl 0 rfl) ?_
    refine lv_iconst (v := 1) hx hb dX7_useRow_8 (by decide) ?_
    refine sm_vi (As := [.int 1]) (rest := [.ref (α.1 7)]) hP hK hD hE hS hA ⟨hx, hb, hml, hown, hts⟩ hl.1 (c_X7_operand l D H.size t0 σ α 1 _ hF) (cwV 1 hts wg_X7_useRow_X7_operand_72 rfl rfl rfl (by decide +kernel) ⟨Nat.le_of_ble_eq_true rfl, Nat.le_of_ble_eq_true rfl⟩) (va_recv hK hP (ci := 7) (q0 := 7) rfl (sm_gX7 σ α)) rfl rfl (Nat.le_of_ble_eq_true rfl) dX7_useRow_9 ⟨Nat.zero_le _, Nat.zero_le _⟩ (fun r25 σ24 H locs hF hP hS => ?_)
    refine lv_aload_n hx hb dX7_useRow_12 rfl (lv_at hl 0 rfl) ?_
    refine lv_iconst (v := 0) hx hb dX7_useRow_13 (by decide) ?_
    refine sm_vl (As := [.int 0]) (rest := [.int r25, .ref (α.1 7)]) hP hK hD hE hS hA ⟨hx, hb, hml, hown, hts⟩ hl.1 (c_X7_below l D H.size t0 σ24 α 0 _ hF) (cwV 1 hts wg_X7_useRow_X7_below_159 rfl rfl rfl (by decide +kernel) ⟨Nat.le_of_ble_eq_true rfl, Nat.le_of_ble_eq_true rfl⟩) (va_recv hK hP (ci := 7) (q0 := 7) rfl (sm_gX7 σ24 α)) rfl rfl (Nat.le_of_ble_eq_true rfl) dX7_useRow_14 ⟨Nat.zero_le _, Nat.zero_le _⟩ (fun r27 σ26 H locs hF hP hS => ?_)
    refine lv_l2i hx hb dX7_useRow_17 rfl ?_
    refine sm_vi (As := [.int r25, .int r27.toInt32]) (rest := []) hP hK hD hE hS hA ⟨hx, hb, hml, hown, hts⟩ hl.1 (c_X7_makeRow l D H.size t0 σ26 α r25 r27.toInt32 _ hF) (cwV 2 hts wg_X7_useRow_X7_makeRow_209 rfl rfl rfl (by decide +kernel) ⟨Nat.le_of_ble_eq_true rfl, Nat.le_of_ble_eq_true rfl⟩) (va_recv hK hP (ci := 7) (q0 := 7) rfl (sm_gX7 σ26 α)) rfl rfl (Nat.le_of_ble_eq_true rfl) dX7_useRow_18 ⟨Nat.zero_le _, Nat.zero_le _⟩ (fun r29 σ28 H locs hF hP hS => ?_)
    exact W.iret (v := r29) hx hb hr (fun t ht hW => ⟨⟨r29, σ28, rfl, hF, (by unfold sm_B; rw [ht]; exact hP)⟩, hS.F ht⟩) hS.2.2 dX7_useRow_21
theorem dX7_step_0 : decode cX7_step 0 = .ok (.aload_n 0, 1) := by decide +kernel
theorem dX7_step_1 : decode cX7_step 1 = .ok (.getfield 27, 3) := by decide +kernel
theorem dX7_step_4 : decode cX7_step 4 = .ok (.invokevirtual 58, 3) := by decide +kernel
theorem dX7_step_7 : decode cX7_step 7 = .ok (.bipush (-2), 2) := by decide +kernel
theorem dX7_step_9 : decode cX7_step 9 = .ok (.istore_n 1, 1) := by decide +kernel
theorem dX7_step_10 : decode cX7_step 10 = .ok (.aload_n 0, 1) := by decide +kernel
theorem dX7_step_11 : decode cX7_step 11 = .ok (.getfield 27, 3) := by decide +kernel
theorem dX7_step_14 : decode cX7_step 14 = .ok (.getfield 63, 3) := by decide +kernel
theorem dX7_step_17 : decode cX7_step 17 = .ok (.ifCond .eq 10, 3) := by decide +kernel
theorem dX7_step_20 : decode cX7_step 20 = .ok (.aload_n 0, 1) := by decide +kernel
theorem dX7_step_21 : decode cX7_step 21 = .ok (.invokevirtual 66, 3) := by decide +kernel
theorem dX7_step_24 : decode cX7_step 24 = .ok (.goto 200, 3) := by decide +kernel
theorem dX7_step_27 : decode cX7_step 27 = .ok (.aload_n 0, 1) := by decide +kernel
theorem dX7_step_28 : decode cX7_step 28 = .ok (.invokevirtual 69, 3) := by decide +kernel
theorem dX7_step_31 : decode cX7_step 31 = .ok (.aload_n 0, 1) := by decide +kernel
theorem dX7_step_32 : decode cX7_step 32 = .ok (.iconst 0, 1) := by decide +kernel
theorem dX7_step_33 : decode cX7_step 33 = .ok (.invokevirtual 72, 3) := by decide +kernel
theorem dX7_step_36 : decode cX7_step 36 = .ok (.istore_n 2, 1) := by decide +kernel
theorem dX7_step_37 : decode cX7_step 37 = .ok (.aload_n 0, 1) := by decide +kernel
theorem dX7_step_38 : decode cX7_step 38 = .ok (.aload_n 0, 1) := by decide +kernel
theorem dX7_step_39 : decode cX7_step 39 = .ok (.getfield 75, 3) := by decide +kernel
theorem dX7_step_42 : decode cX7_step 42 = .ok (.getstatic 78, 3) := by decide +kernel
theorem dX7_step_45 : decode cX7_step 45 = .ok (.iload_n 2, 1) := by decide +kernel
theorem dX7_step_46 : decode cX7_step 46 = .ok (.iaload, 1) := by decide +kernel
theorem dX7_step_47 : decode cX7_step 47 = .ok (.iadd, 1) := by decide +kernel
theorem dX7_step_48 : decode cX7_step 48 = .ok (.putfield 82, 3) := by decide +kernel
theorem dX7_step_51 : decode cX7_step 51 = .ok (.iload_n 2, 1) := by decide +kernel
theorem dX7_step_52 : decode cX7_step 52 = .ok (.bipush 6, 2) := by decide +kernel
theorem dX7_step_54 : decode cX7_step 54 = .ok (.if_icmp .gt 12, 3) := by decide +kernel
theorem dX7_step_57 : decode cX7_step 57 = .ok (.aload_n 0, 1) := by decide +kernel
theorem dX7_step_58 : decode cX7_step 58 = .ok (.iload_n 2, 1) := by decide +kernel
theorem dX7_step_59 : decode cX7_step 59 = .ok (.invokevirtual 85, 3) := by decide +kernel
theorem dX7_step_62 : decode cX7_step 62 = .ok (.istore_n 1, 1) := by decide +kernel
theorem dX7_step_63 : decode cX7_step 63 = .ok (.goto 101, 3) := by decide +kernel
theorem dX7_step_66 : decode cX7_step 66 = .ok (.iload_n 2, 1) := by decide +kernel
theorem dX7_step_67 : decode cX7_step 67 = .ok (.bipush 18, 2) := by decide +kernel
theorem dX7_step_69 : decode cX7_step 69 = .ok (.if_icmp .gt 12, 3) := by decide +kernel
theorem dX7_step_72 : decode cX7_step 72 = .ok (.aload_n 0, 1) := by decide +kernel
theorem dX7_step_73 : decode cX7_step 73 = .ok (.iload_n 2, 1) := by decide +kernel
theorem dX7_step_74 : decode cX7_step 74 = .ok (.invokevirtual 88, 3) := by decide +kernel
theorem dX7_step_77 : decode cX7_step 77 = .ok (.istore_n 1, 1) := by decide +kernel
theorem dX7_step_78 : decode cX7_step 78 = .ok (.goto 86, 3) := by decide +kernel
theorem dX7_step_81 : decode cX7_step 81 = .ok (.iload_n 2, 1) := by decide +kernel
theorem dX7_step_82 : decode cX7_step 82 = .ok (.bipush 25, 2) := by decide +kernel
theorem dX7_step_84 : decode cX7_step 84 = .ok (.if_icmp .gt 12, 3) := by decide +kernel
theorem dX7_step_87 : decode cX7_step 87 = .ok (.aload_n 0, 1) := by decide +kernel
theorem dX7_step_88 : decode cX7_step 88 = .ok (.iload_n 2, 1) := by decide +kernel
theorem dX7_step_89 : decode cX7_step 89 = .ok (.invokevirtual 91, 3) := by decide +kernel
theorem dX7_step_92 : decode cX7_step 92 = .ok (.istore_n 1, 1) := by decide +kernel
theorem dX7_step_93 : decode cX7_step 93 = .ok (.goto 71, 3) := by decide +kernel
theorem dX7_step_96 : decode cX7_step 96 = .ok (.iload_n 2, 1) := by decide +kernel
theorem dX7_step_97 : decode cX7_step 97 = .ok (.bipush 30, 2) := by decide +kernel
theorem dX7_step_99 : decode cX7_step 99 = .ok (.if_icmp .gt 12, 3) := by decide +kernel
theorem dX7_step_102 : decode cX7_step 102 = .ok (.aload_n 0, 1) := by decide +kernel
theorem dX7_step_103 : decode cX7_step 103 = .ok (.iload_n 2, 1) := by decide +kernel
theorem dX7_step_104 : decode cX7_step 104 = .ok (.invokevirtual 94, 3) := by decide +kernel
theorem dX7_step_107 : decode cX7_step 107 = .ok (.istore_n 1, 1) := by decide +kernel
theorem dX7_step_108 : decode cX7_step 108 = .ok (.goto 56, 3) := by decide +kernel
theorem dX7_step_111 : decode cX7_step 111 = .ok (.iload_n 2, 1) := by decide +kernel
theorem dX7_step_112 : decode cX7_step 112 = .ok (.bipush 34, 2) := by decide +kernel
theorem dX7_step_114 : decode cX7_step 114 = .ok (.if_icmp .gt 12, 3) := by decide +kernel
theorem dX7_step_117 : decode cX7_step 117 = .ok (.aload_n 0, 1) := by decide +kernel
theorem dX7_step_118 : decode cX7_step 118 = .ok (.iload_n 2, 1) := by decide +kernel
theorem dX7_step_119 : decode cX7_step 119 = .ok (.invokevirtual 97, 3) := by decide +kernel
theorem dX7_step_122 : decode cX7_step 122 = .ok (.istore_n 1, 1) := by decide +kernel
theorem dX7_step_123 : decode cX7_step 123 = .ok (.goto 41, 3) := by decide +kernel
theorem dX7_step_126 : decode cX7_step 126 = .ok (.iload_n 2, 1) := by decide +kernel
theorem dX7_step_127 : decode cX7_step 127 = .ok (.bipush 36, 2) := by decide +kernel
theorem dX7_step_129 : decode cX7_step 129 = .ok (.if_icmp .gt 29, 3) := by decide +kernel
theorem dX7_step_132 : decode cX7_step 132 = .ok (.iload_n 2, 1) := by decide +kernel
theorem dX7_step_133 : decode cX7_step 133 = .ok (.bipush 35, 2) := by decide +kernel
theorem dX7_step_135 : decode cX7_step 135 = .ok (.if_icmp .ne 15, 3) := by decide +kernel
theorem dX7_step_138 : decode cX7_step 138 = .ok (.aload_n 0, 1) := by decide +kernel
theorem dX7_step_139 : decode cX7_step 139 = .ok (.aload_n 0, 1) := by decide +kernel
theorem dX7_step_140 : decode cX7_step 140 = .ok (.iconst 1, 1) := by decide +kernel
theorem dX7_step_141 : decode cX7_step 141 = .ok (.invokevirtual 72, 3) := by decide +kernel
theorem dX7_step_144 : decode cX7_step 144 = .ok (.invokevirtual 54, 3) := by decide +kernel
theorem dX7_step_147 : decode cX7_step 147 = .ok (.goto 7, 3) := by decide +kernel
theorem dX7_step_150 : decode cX7_step 150 = .ok (.aload_n 0, 1) := by decide +kernel
theorem dX7_step_151 : decode cX7_step 151 = .ok (.invokevirtual 100, 3) := by decide +kernel
theorem dX7_step_154 : decode cX7_step 154 = .ok (.istore_n 1, 1) := by decide +kernel
theorem dX7_step_155 : decode cX7_step 155 = .ok (.goto 9, 3) := by decide +kernel
theorem dX7_step_158 : decode cX7_step 158 = .ok (.aload_n 0, 1) := by decide +kernel
theorem dX7_step_159 : decode cX7_step 159 = .ok (.iload_n 2, 1) := by decide +kernel
theorem dX7_step_160 : decode cX7_step 160 = .ok (.invokevirtual 104, 3) := by decide +kernel
theorem dX7_step_163 : decode cX7_step 163 = .ok (.istore_n 1, 1) := by decide +kernel
theorem dX7_step_164 : decode cX7_step 164 = .ok (.iload_n 1, 1) := by decide +kernel
theorem dX7_step_165 : decode cX7_step 165 = .ok (.iconst (-1), 1) := by decide +kernel
theorem dX7_step_166 : decode cX7_step 166 = .ok (.if_icmp .ne 48, 3) := by decide +kernel
theorem dX7_step_169 : decode cX7_step 169 = .ok (.aload_n 0, 1) := by decide +kernel
theorem dX7_step_170 : decode cX7_step 170 = .ok (.getfield 27, 3) := by decide +kernel
theorem dX7_step_173 : decode cX7_step 173 = .ok (.aload_n 0, 1) := by decide +kernel
theorem dX7_step_174 : decode cX7_step 174 = .ok (.getfield 27, 3) := by decide +kernel
theorem dX7_step_177 : decode cX7_step 177 = .ok (.getfield 107, 3) := by decide +kernel
theorem dX7_step_180 : decode cX7_step 180 = .ok (.iconst 1, 1) := by decide +kernel
theorem dX7_step_181 : decode cX7_step 181 = .ok (.iadd, 1) := by decide +kernel
theorem dX7_step_182 : decode cX7_step 182 = .ok (.aload_n 0, 1) := by decide +kernel
theorem dX7_step_183 : decode cX7_step 183 = .ok (.getfield 82, 3) := by decide +kernel
theorem dX7_step_186 : decode cX7_step 186 = .ok (.i2l, 1) := by decide +kernel
theorem dX7_step_187 : decode cX7_step 187 = .ok (.invokevirtual 110, 3) := by decide +kernel
theorem dX7_step_190 : decode cX7_step 190 = .ok (.aload_n 0, 1) := by decide +kernel
theorem dX7_step_191 : decode cX7_step 191 = .ok (.getfield 27, 3) := by decide +kernel
theorem dX7_step_194 : decode cX7_step 194 = .ok (.aload_n 0, 1) := by decide +kernel
theorem dX7_step_195 : decode cX7_step 195 = .ok (.getfield 27, 3) := by decide +kernel
theorem dX7_step_198 : decode cX7_step 198 = .ok (.getfield 107, 3) := by decide +kernel
theorem dX7_step_201 : decode cX7_step 201 = .ok (.iconst 2, 1) := by decide +kernel
theorem dX7_step_202 : decode cX7_step 202 = .ok (.iadd, 1) := by decide +kernel
theorem dX7_step_203 : decode cX7_step 203 = .ok (.aload_n 0, 1) := by decide +kernel
theorem dX7_step_204 : decode cX7_step 204 = .ok (.getfield 46, 3) := by decide +kernel
theorem dX7_step_207 : decode cX7_step 207 = .ok (.i2l, 1) := by decide +kernel
theorem dX7_step_208 : decode cX7_step 208 = .ok (.invokevirtual 110, 3) := by decide +kernel
theorem dX7_step_211 : decode cX7_step 211 = .ok (.goto 13, 3) := by decide +kernel
theorem dX7_step_214 : decode cX7_step 214 = .ok (.iload_n 1, 1) := by decide +kernel
theorem dX7_step_215 : decode cX7_step 215 = .ok (.ifCond .lt 9, 3) := by decide +kernel
theorem dX7_step_218 : decode cX7_step 218 = .ok (.aload_n 0, 1) := by decide +kernel
theorem dX7_step_219 : decode cX7_step 219 = .ok (.iload_n 1, 1) := by decide +kernel
theorem dX7_step_220 : decode cX7_step 220 = .ok (.invokevirtual 114, 3) := by decide +kernel
theorem dX7_step_223 : decode cX7_step 223 = .ok (.istore_n 1, 1) := by decide +kernel
theorem dX7_step_224 : decode cX7_step 224 = .ok (.aload_n 0, 1) := by decide +kernel
theorem dX7_step_225 : decode cX7_step 225 = .ok (.getfield 27, 3) := by decide +kernel
theorem dX7_step_228 : decode cX7_step 228 = .ok (.invokevirtual 117, 3) := by decide +kernel
theorem dX7_step_231 : decode cX7_step 231 = .ok (.iload_n 1, 1) := by decide +kernel
theorem dX7_step_232 : decode cX7_step 232 = .ok (.bipush (-3), 2) := by decide +kernel
theorem dX7_step_234 : decode cX7_step 234 = .ok (.if_icmp .ne 10, 3) := by decide +kernel
theorem dX7_step_237 : decode cX7_step 237 = .ok (.aload_n 0, 1) := by decide +kernel
theorem dX7_step_238 : decode cX7_step 238 = .ok (.iconst 4, 1) := by decide +kernel
theorem dX7_step_239 : decode cX7_step 239 = .ok (.putfield 35, 3) := by decide +kernel
theorem dX7_step_242 : decode cX7_step 242 = .ok (.iconst 0, 1) := by decide +kernel
theorem dX7_step_243 : decode cX7_step 243 = .ok (.ireturn, 1) := by decide +kernel
theorem dX7_step_244 : decode cX7_step 244 = .ok (.aload_n 0, 1) := by decide +kernel
theorem dX7_step_245 : decode cX7_step 245 = .ok (.dup, 1) := by decide +kernel
theorem dX7_step_246 : decode cX7_step 246 = .ok (.getfield 42, 3) := by decide +kernel
theorem dX7_step_249 : decode cX7_step 249 = .ok (.lconst 1, 1) := by decide +kernel
theorem dX7_step_250 : decode cX7_step 250 = .ok (.ladd, 1) := by decide +kernel
theorem dX7_step_251 : decode cX7_step 251 = .ok (.putfield 42, 3) := by decide +kernel
theorem dX7_step_254 : decode cX7_step 254 = .ok (.iconst 1, 1) := by decide +kernel
theorem dX7_step_255 : decode cX7_step 255 = .ok (.ireturn, 1) := by decide +kernel
def wp_X7_step : List Cond := .code yX7_step cX7_step 3 (some .boolean) :: ((((((((((((((((([.fieldLink RX7 27 "SteadyMachine$Runner" "heap" "LSteadyMachine$Heap;", .fieldLink RX7 42 "SteadyMachine$Runner" "steps" "J", .fieldLink RX7 35 "SteadyMachine$Runner" "state" "I", .fieldLink RX7 107 "SteadyMachine$Heap" "top" "I", .fieldLink RX7 82 "SteadyMachine$Runner" "next" "I", .fieldLink RX7 46 "SteadyMachine$Runner" "height" "I", .fieldLink RX7 63 "SteadyMachine$Heap" "flies" "I", .fieldLink RX7 75 "SteadyMachine$Runner" "place" "I"] ++ (wsV RX7 117 RX1 yX1_endStep wp_X1_endStep)) ++ (wsV RX7 114 RX7 yX7_raise wp_X7_raise)) ++ (wsV RX7 110 RX1 yX1_put wp_X1_put)) ++ (wsV RX7 58 RX1 yX1_beginStep wp_X1_beginStep)) ++ (wsV RX7 69 RX7 yX7_loadTop wp_X7_loadTop)) ++ (wsV RX7 72 RX7 yX7_operand wp_X7_operand)) ++ (wsV RX7 104 RX7 yX7_leaveOrPort wp_X7_leaveOrPort)) ++ (wsV RX7 100 RX7 yX7_send wp_X7_send)) ++ (wsV RX7 54 RX7 yX7_enter wp_X7_enter)) ++ (wsV RX7 97 RX7 yX7_useRow wp_X7_useRow)) ++ (wsV RX7 94 RX7 yX7_useObject wp_X7_useObject)) ++ (wsV RX7 91 RX7 yX7_jump wp_X7_jump)) ++ (wsV RX7 88 RX7 yX7_reckon wp_X7_reckon)) ++ (wsV RX7 85 RX7 yX7_moveValues wp_X7_moveValues)) ++ (wsV RX7 66 RX7 yX7_fly wp_X7_fly)) ++ wsX10) ++ wsX70)
theorem wq_X7_step : wp_X7_step.all goodWord = true := wa_c rfl (wa_a (wa_a (wa_a (wa_a (wa_a (wa_a (wa_a (wa_a (wa_a (wa_a (wa_a (wa_a (wa_a (wa_a (wa_a (wa_a (wa_a (by decide +kernel) (wa_V wq_X1_endStep)) (wa_V wq_X7_raise)) (wa_V wq_X1_put)) (wa_V wq_X1_beginStep)) (wa_V wq_X7_loadTop)) (wa_V wq_X7_operand)) (wa_V wq_X7_leaveOrPort)) (wa_V wq_X7_send)) (wa_V wq_X7_enter)) (wa_V wq_X7_useRow)) (wa_V wq_X7_useObject)) (wa_V wq_X7_jump)) (wa_V wq_X7_reckon)) (wa_V wq_X7_moveValues)) (wa_V wq_X7_fly)) uq_X1) uq_X7)
theorem wt_X7_step : GoodIn lw_tbl wp_X7_step := wm_c (List.mem_of_getElem? (i := 944) (by decide +kernel)) rfl (wm_a (wm_a (wm_a (wm_a (wm_a (wm_a (wm_a (wm_a (wm_a (wm_a (wm_a (wm_a (wm_a (wm_a (wm_a (wm_a (wm_a (goodIn_r _ [515, 521, 517, 463, 525, 526, 465, 524] (by decide +kernel) (by decide +kernel)) (wm_a (goodIn_r _ [1089, 1090, 1091, 144] (by decide +kernel) (by decide +kernel)) wt_X1_endStep)) (wm_a (goodIn_r _ [1085, 1087, 64, 145] (by decide +kernel) (by decide +kernel)) wt_X7_raise)) (wm_a (goodIn_r _ [931, 923, 924, 144] (by decide +kernel) (by decide +kernel)) wt_X1_put)) (wm_a (goodIn_r _ [945, 946, 947, 144] (by decide +kernel) (by decide +kernel)) wt_X1_beginStep)) (wm_a (goodIn_r _ [953, 955, 42, 145] (by decide +kernel) (by decide +kernel)) wt_X7_loadTop)) (wm_a (goodIn_r _ [965, 967, 44, 145] (by decide +kernel) (by decide +kernel)) wt_X7_operand)) (wm_a (goodIn_r _ [1068, 1070, 62, 145] (by decide +kernel) (by decide +kernel)) wt_X7_leaveOrPort)) (wm_a (goodIn_r _ [1064, 1066, 61, 145] (by decide +kernel) (by decide +kernel)) wt_X7_send)) (wm_a (goodIn_r _ [881, 883, 36, 145] (by decide +kernel) (by decide +kernel)) wt_X7_enter)) (wm_a (goodIn_r _ [1031, 1033, 55, 145] (by decide +kernel) (by decide +kernel)) wt_X7_useRow)) (wm_a (goodIn_r _ [1011, 1013, 52, 145] (by decide +kernel) (by decide +kernel)) wt_X7_useObject)) (wm_a (goodIn_r _ [1003, 1005, 51, 145] (by decide +kernel) (by decide +kernel)) wt_X7_jump)) (wm_a (goodIn_r _ [996, 998, 50, 145] (by decide +kernel) (by decide +kernel)) wt_X7_reckon)) (wm_a (goodIn_r _ [970, 972, 45, 145] (by decide +kernel) (by decide +kernel)) wt_X7_moveValues)) (wm_a (goodIn_r _ [949, 951, 41, 145] (by decide +kernel) (by decide +kernel)) wt_X7_fly)) ut_X1) ut_X7)
theorem wg_X7_step_X1_endStep_117 : GoodIn wp_X7_step (wsV RX7 117 RX1 yX1_endStep wp_X1_endStep) := goodIn_sub (fun w h => List.mem_cons_of_mem _ (List.mem_append_left _ (List.mem_append_left _ (List.mem_append_left _ (List.mem_append_left _ (List.mem_append_left _ (List.mem_append_left _ (List.mem_append_left _ (List.mem_append_left _ (List.mem_append_left _ (List.mem_append_left _ (List.mem_append_left _ (List.mem_append_left _ (List.mem_append_left _ (List.mem_append_left _ (List.mem_append_left _ (List.mem_append_left _ (List.mem_append_right _ h)))))))))))))))))) (wa_V wq_X1_endStep)
theorem wg_X7_step_X7_raise_114 : GoodIn wp_X7_step (wsV RX7 114 RX7 yX7_raise wp_X7_raise) := goodIn_sub (fun w h => List.mem_cons_of_mem _ (List.mem_append_left _ (List.mem_append_left _ (List.mem_append_left _ (List.mem_append_left _ (List.mem_append_left _ (List.mem_append_left _ (List.mem_append_left _ (List.mem_append_left _ (List.mem_append_left _ (List.mem_append_left _ (List.mem_append_left _ (List.mem_append_left _ (List.mem_append_left _ (List.mem_append_left _ (List.mem_append_left _ (List.mem_append_right _ h))))))))))))))))) (wa_V wq_X7_raise)
theorem wg_X7_step_X1_put_110 : GoodIn wp_X7_step (wsV RX7 110 RX1 yX1_put wp_X1_put) := goodIn_sub (fun w h => List.mem_cons_of_mem _ (List.mem_append_left _ (List.mem_append_left _ (List.mem_append_left _ (List.mem_append_left _ (List.mem_append_left _ (List.mem_append_left _ (List.mem_append_left _ (List.mem_append_left _ (List.mem_append_left _ (List.mem_append_left _ (List.mem_append_left _ (List.mem_append_left _ (List.mem_append_left _ (List.mem_append_left _ (List.mem_append_right _ h)))))))))))))))) (wa_V wq_X1_put)
theorem wg_X7_step_X1_beginStep_58 : GoodIn wp_X7_step (wsV RX7 58 RX1 yX1_beginStep wp_X1_beginStep) := goodIn_sub (fun w h => List.mem_cons_of_mem _ (List.mem_append_left _ (List.mem_append_left _ (List.mem_append_left _ (List.mem_append_left _ (List.mem_append_left _ (List.mem_append_left _ (List.mem_append_left _ (List.mem_append_left _ (List.mem_append_left _ (List.mem_append_left _ (List.mem_append_left _ (List.mem_append_left _ (List.mem_append_left _ (List.mem_append_right _ h))))))))))))))) (wa_V wq_X1_beginStep)
theorem wg_X7_step_X7_loadTop_69 : GoodIn wp_X7_step (wsV RX7 69 RX7 yX7_loadTop wp_X7_loadTop) := goodIn_sub (fun w h => List.mem_cons_of_mem _ (List.mem_append_left _ (List.mem_append_left _ (List.mem_append_left _ (List.mem_append_left _ (List.mem_append_left _ (List.mem_append_left _ (List.mem_append_left _ (List.mem_append_left _ (List.mem_append_left _ (List.mem_append_left _ (List.mem_append_left _ (List.mem_append_left _ (List.mem_append_right _ h)))))))))))))) (wa_V wq_X7_loadTop)
theorem wg_X7_step_X7_operand_72 : GoodIn wp_X7_step (wsV RX7 72 RX7 yX7_operand wp_X7_operand) := goodIn_sub (fun w h => List.mem_cons_of_mem _ (List.mem_append_left _ (List.mem_append_left _ (List.mem_append_left _ (List.mem_append_left _ (List.mem_append_left _ (List.mem_append_left _ (List.mem_append_left _ (List.mem_append_left _ (List.mem_append_left _ (List.mem_append_left _ (List.mem_append_left _ (List.mem_append_right _ h))))))))))))) (wa_V wq_X7_operand)
theorem wg_X7_step_X7_leaveOrPort_104 : GoodIn wp_X7_step (wsV RX7 104 RX7 yX7_leaveOrPort wp_X7_leaveOrPort) := goodIn_sub (fun w h => List.mem_cons_of_mem _ (List.mem_append_left _ (List.mem_append_left _ (List.mem_append_left _ (List.mem_append_left _ (List.mem_append_left _ (List.mem_append_left _ (List.mem_append_left _ (List.mem_append_left _ (List.mem_append_left _ (List.mem_append_left _ (List.mem_append_right _ h)))))))))))) (wa_V wq_X7_leaveOrPort)
theorem wg_X7_step_X7_send_100 : GoodIn wp_X7_step (wsV RX7 100 RX7 yX7_send wp_X7_send) := goodIn_sub (fun w h => List.mem_cons_of_mem _ (List.mem_append_left _ (List.mem_append_left _ (List.mem_append_left _ (List.mem_append_left _ (List.mem_append_left _ (List.mem_append_left _ (List.mem_append_left _ (List.mem_append_left _ (List.mem_append_left _ (List.mem_append_right _ h))))))))))) (wa_V wq_X7_send)
theorem wg_X7_step_X7_enter_54 : GoodIn wp_X7_step (wsV RX7 54 RX7 yX7_enter wp_X7_enter) := goodIn_sub (fun w h => List.mem_cons_of_mem _ (List.mem_append_left _ (List.mem_append_left _ (List.mem_append_left _ (List.mem_append_left _ (List.mem_append_left _ (List.mem_append_left _ (List.mem_append_left _ (List.mem_append_left _ (List.mem_append_right _ h)))))))))) (wa_V wq_X7_enter)
theorem wg_X7_step_X7_useRow_97 : GoodIn wp_X7_step (wsV RX7 97 RX7 yX7_useRow wp_X7_useRow) := goodIn_sub (fun w h => List.mem_cons_of_mem _ (List.mem_append_left _ (List.mem_append_left _ (List.mem_append_left _ (List.mem_append_left _ (List.mem_append_left _ (List.mem_append_left _ (List.mem_append_left _ (List.mem_append_right _ h))))))))) (wa_V wq_X7_useRow)
theorem wg_X7_step_X7_useObject_94 : GoodIn wp_X7_step (wsV RX7 94 RX7 yX7_useObject wp_X7_useObject) := goodIn_sub (fun w h => List.mem_cons_of_mem _ (List.mem_append_left _ (List.mem_append_left _ (List.mem_append_left _ (List.mem_append_left _ (List.mem_append_left _ (List.mem_append_left _ (List.mem_append_right _ h)))))))) (wa_V wq_X7_useObject)
theorem wg_X7_step_X7_jump_91 : GoodIn wp_X7_step (wsV RX7 91 RX7 yX7_jump wp_X7_jump) := goodIn_sub (fun w h => List.mem_cons_of_mem _ (List.mem_append_left _ (List.mem_append_left _ (List.mem_append_left _ (List.mem_append_left _ (List.mem_append_left _ (List.mem_append_right _ h))))))) (wa_V wq_X7_jump)
theorem wg_X7_step_X7_reckon_88 : GoodIn wp_X7_step (wsV RX7 88 RX7 yX7_reckon wp_X7_reckon) := goodIn_sub (fun w h => List.mem_cons_of_mem _ (List.mem_append_left _ (List.mem_append_left _ (List.mem_append_left _ (List.mem_append_left _ (List.mem_append_right _ h)))))) (wa_V wq_X7_reckon)
theorem wg_X7_step_X7_moveValues_85 : GoodIn wp_X7_step (wsV RX7 85 RX7 yX7_moveValues wp_X7_moveValues) := goodIn_sub (fun w h => List.mem_cons_of_mem _ (List.mem_append_left _ (List.mem_append_left _ (List.mem_append_left _ (List.mem_append_right _ h))))) (wa_V wq_X7_moveValues)
theorem wg_X7_step_X7_fly_66 : GoodIn wp_X7_step (wsV RX7 66 RX7 yX7_fly wp_X7_fly) := goodIn_sub (fun w h => List.mem_cons_of_mem _ (List.mem_append_left _ (List.mem_append_left _ (List.mem_append_right _ h)))) (wa_V wq_X7_fly)
theorem wi_X7_step_X1 : ∀ w ∈ wsX10, w ∈ wp_X7_step := fun w h => List.mem_cons_of_mem _ (List.mem_append_left _ (List.mem_append_right _ h))
theorem wi_X7_step_X7 : ∀ w ∈ wsX70, w ∈ wp_X7_step := fun w h => List.mem_cons_of_mem _ (List.mem_append_right _ h)
set_option maxHeartbeats 4000000 in
set_option maxRecDepth 100000 in
theorem c_X7_step (l : Launch) (D : va_G) (sz t0 : Nat) (σ : sm_S) (α : sm_A) (K : Int32 → sm_S → Prop) (hF : mp_X7_step σ K) : Met l yX7_step wp_X7_step { frames := 6, cells := 0, slots := 0, locals := 144 } (sm_P sm_wX sm_tX 37 D sz t0 σ α [.ref (α.1 7)]) (va_Qi K (sm_B sm_wX D α) (sm_a α 37 sz)) 0 0 (sm_a α 37 sz) := by
  refine Met.ofW (cc := cX7_step) (maxL := 3) (ret := (some .boolean)) (by decide) rfl ?_
  intro p e s m args below meth c s₁ B hml hv
  obtain ⟨rfl, hsz, hP, hK, hD0, hE⟩ := hv
  have hx := B.exec
  have hb := B.bytes
  have hr := B.returns
  have hts := atoms_spec (ws := wp_X7_step) B.pre
  have hown : s.vm.findClass RX7 = some m.cls := findClass_of_methodNamed B.named
  have hlocks := B.notSynchronized
  subst hsz
  have hD : sm_D (sm_a α 37 s.heap.size) α 37 := hD0.own
  have hA : ∀ q : Nat, s.heap.size ≤ q → sm_a α 37 s.heap.size q := fun q h => Or.inr h
  generalize hAe : sm_a α 37 s.heap.size = A at hD hA hE ⊢
  have hS : va_S A s.heap s.heap [] := va_S.rf
  have in_X1 : ∀ w ∈ wsX10, w ∈ wp_X7_step := wi_X7_step_X1
  have in_X7 : ∀ w ∈ wsX70, w ∈ wp_X7_step := wi_X7_step_X7
  have k_0 := hts (.fieldLink RX7 27 "SteadyMachine$Runner" "heap" "LSteadyMachine$Heap;") (by decide +kernel)
  have k_1 := hts (.fieldLink RX7 42 "SteadyMachine$Runner" "steps" "J") (by decide +kernel)
  have k_2 := hts (.fieldLink RX7 35 "SteadyMachine$Runner" "state" "I") (by decide +kernel)
  have k_3 := hts (.fieldLink RX7 107 "SteadyMachine$Heap" "top" "I") (by decide +kernel)
  have k_4 := hts (.fieldLink RX7 82 "SteadyMachine$Runner" "next" "I") (by decide +kernel)
  have k_5 := hts (.fieldLink RX7 46 "SteadyMachine$Runner" "height" "I") (by decide +kernel)
  have k_6 := hts (.fieldLink RX7 63 "SteadyMachine$Heap" "flies" "I") (by decide +kernel)
  have k_7 := hts (.fieldLink RX7 75 "SteadyMachine$Runner" "place" "I") (by decide +kernel)
  have hl := lv_entry ([.ref (α.1 7)]) (n := 3) (Nat.le_of_ble_eq_true rfl)
  rw [lg_entry_eq]
  generalize (lg_sl ([.ref (α.1 7)]) ++ List.replicate (3 - (lg_sl ([.ref (α.1 7)])).length) Slot.unset).toArray = ls at hl ⊢
  have hl : lv_has ls 3 [(0, .ref (α.1 7))] := hl
  have B224 : ∀ (σ : sm_S) (x1 : Int32), mp_X7_step_224 K σ x1 → sm_J p l e (headSpec wp_X7_step { frames := 6, cells := 0, slots := 0, locals := 144 }).room s m ([.ref (α.1 7)] : List Value).toArray below meth c (MQ below (va_Qi K (sm_B sm_wX D α) A) ([.ref (α.1 7)] : List Value).toArray s 0 0 A) D A 3 (sm_wX σ α) 224 [(0, .ref (α.1 7)), (1, .int x1)] [] := by
    intro σ x1 hF H locs ls hP hS hl
    unfold mp_X7_step_224 at hF
    refine lv_aload_n hx hb dX7_step_224 rfl (lv_at hl 0 rfl) ?_
    refine va_get (D := D) (ci := 7) (v := .ref (α.1 1)) (C := RX7) (T := TX7) (N := 13) hx hb hts in_X7 hown hK hP 7 (sm_gX7 σ α) rfl 3 (by decide) k_0 (fun _ h9 => h9) rfl dX7_step_225 ?_
    refine sm_vv (As := []) (rest := []) hP hK hD hE hS hA ⟨hx, hb, hml, hown, hts⟩ hl.1 (c_X1_endStep l D H.size t0 σ α _ hF) (cwV 0 hts wg_X7_step_X1_endStep_117 rfl rfl rfl (by decide +kernel) ⟨Nat.le_of_ble_eq_true rfl, Nat.le_of_ble_eq_true rfl⟩) (va_recv hK hP (ci := 1) (q0 := 1) rfl (sm_gX1 σ α)) rfl rfl (Nat.le_of_ble_eq_true rfl) dX7_step_228 ⟨Nat.zero_le _, Nat.zero_le _⟩ (fun σ1 H locs hF hP hS => ?_)
    refine lv_iload_n hx hb dX7_step_231 rfl (lv_at hl 1 rfl) ?_
    refine lv_bipush (v := -3) hx hb dX7_step_232 (by decide) ?_
    refine lv_icmp_ne (tgt := 244) hx hb dX7_step_234 (by decide) (fun h2 => ?_) (fun h2 => ?_)
    · replace hF := hF.1 h2
      refine lv_aload_n hx hb dX7_step_244 rfl (lv_at hl 0 rfl) ?_
      refine lv_dup hx hb dX7_step_245 rfl ?_
      refine va_get (D := D) (ci := 7) (v := .long (σ1.2.1 1)) (C := RX7) (T := TX7) (N := 13) hx hb hts in_X7 hown hK hP 7 (sm_gX7 σ1 α) rfl 7 (by decide) k_1 (fun _ h9 => h9) rfl dX7_step_246 ?_
      refine lv_lconst (v := 1) hx hb dX7_step_249 (by decide) ?_
      refine lv_ladd hx hb dX7_step_250 ?_
      refine va_put (D := D) (ci := 7) (v := .long ((σ1.2.1 1) + 1)) (ty := .long) (C := RX7) (T := TX7) (N := 13) hx hb hts in_X7 tyX7 tyX7_ok nmX7 hown hK hP (hD.to (sm_wX_m _ _)) hS 7 (sm_gX7 σ1 α) rfl 7 (by decide) k_1 (fun _ h9 => h9) rfl (by decide +kernel) rfl rfl (Nat.le_of_ble_eq_true rfl) dX7_step_251 (fun H locs hP _ hS => ?_)
      rw [sm_jX1] at hP
      obtain ⟨σ3, eσ3⟩ : ∃ x : sm_S, x = sm_j σ1 1 ((σ1.2.1 1) + 1) := ⟨_, rfl⟩
      replace hF := hF σ3 eσ3
      rw [← eσ3] at hP
      refine lv_iconst (v := 1) hx hb dX7_step_254 (by decide) ?_
      exact W.zret (v := 1) hx hb hr sm_z1.1 (fun t ht hW => ⟨⟨1, σ3, rfl, hF, (by unfold sm_B; rw [ht]; exact hP)⟩, hS.F ht⟩) hS.2.2 dX7_step_255
    · replace hF := hF.2 h2
      refine lv_aload_n hx hb dX7_step_237 rfl (lv_at hl 0 rfl) ?_
      refine lv_iconst (v := 4) hx hb dX7_step_238 (by decide) ?_
      refine va_put (D := D) (ci := 7) (v := .int 4) (ty := .int) (C := RX7) (T := TX7) (N := 13) hx hb hts in_X7 tyX7 tyX7_ok nmX7 hown hK hP (hD.to (sm_wX_m _ _)) hS 7 (sm_gX7 σ1 α) rfl 5 (by decide) k_2 (fun _ h9 => h9) rfl (by decide +kernel) rfl rfl (Nat.le_of_ble_eq_true rfl) dX7_step_239 (fun H locs hP _ hS => ?_)
      rw [sm_iX22] at hP
      obtain ⟨σ4, eσ4⟩ : ∃ x : sm_S, x = sm_i σ1 22 4 := ⟨_, rfl⟩
      replace hF := hF σ4 eσ4
      rw [← eσ4] at hP
      refine lv_iconst (v := 0) hx hb dX7_step_242 (by decide) ?_
      exact W.zret (v := 0) hx hb hr sm_z0.1 (fun t ht hW => ⟨⟨0, σ4, rfl, hF, (by unfold sm_B; rw [ht]; exact hP)⟩, hS.F ht⟩) hS.2.2 dX7_step_243
  have B164 : ∀ (σ : sm_S) (x1 : Int32), mp_X7_step_164 K σ x1 → sm_J p l e (headSpec wp_X7_step { frames := 6, cells := 0, slots := 0, locals := 144 }).room s m ([.ref (α.1 7)] : List Value).toArray below meth c (MQ below (va_Qi K (sm_B sm_wX D α) A) ([.ref (α.1 7)] : List Value).toArray s 0 0 A) D A 3 (sm_wX σ α) 164 [(0, .ref (α.1 7)), (1, .int x1)] [] := by
    intro σ x1 hF H locs ls hP hS hl
    unfold mp_X7_step_164 at hF
    refine lv_iload_n hx hb dX7_step_164 rfl (lv_at hl 1 rfl) ?_
    refine lv_iconst (v := -1) hx hb dX7_step_165 (by decide) ?_
    refine lv_icmp_ne (tgt := 214) hx hb dX7_step_166 (by decide) (fun h5 => ?_) (fun h5 => ?_)
    · replace hF := hF.1 h5
      refine lv_iload_n hx hb dX7_step_214 rfl (lv_at hl 1 rfl) ?_
      refine lv_if_lt (tgt := 224) hx hb dX7_step_215 (by decide) (fun h6 => ?_) (fun h6 => ?_)
      · replace hF := hF.1 h6
        exact B224 σ x1 hF H locs ls hP hS (lv_sub hl [0, 1] rfl)
      · replace hF := hF.2 h6
        refine lv_aload_n hx hb dX7_step_218 rfl (lv_at hl 0 rfl) ?_
        refine lv_iload_n hx hb dX7_step_219 rfl (lv_at hl 1 rfl) ?_
        refine sm_vi (As := [.int x1]) (rest := []) hP hK hD hE hS hA ⟨hx, hb, hml, hown, hts⟩ hl.1 (c_X7_raise l D H.size t0 σ α x1 _ hF) (cwV 1 hts wg_X7_step_X7_raise_114 rfl rfl rfl (by decide +kernel) ⟨Nat.le_of_ble_eq_true rfl, Nat.le_of_ble_eq_true rfl⟩) (va_recv hK hP (ci := 7) (q0 := 7) rfl (sm_gX7 σ α)) rfl rfl (Nat.le_of_ble_eq_true rfl) dX7_step_220 ⟨Nat.zero_le _, Nat.zero_le _⟩ (fun r8 σ7 H locs hF hP hS => ?_)
        refine lv_istore_n (lv' := [(1, .int r8), (0, .ref (α.1 7))]) hx hb dX7_step_223 rfl hl (by decide) rfl (fun ls hl => ?_)
        exact B224 σ7 r8 hF H locs ls hP hS (lv_sub hl [1, 0] rfl)
    · replace hF := hF.2 h5
      refine lv_aload_n hx hb dX7_step_169 rfl (lv_at hl 0 rfl) ?_
      refine va_get (D := D) (ci := 7) (v := .ref (α.1 1)) (C := RX7) (T := TX7) (N := 13) hx hb hts in_X7 hown hK hP 7 (sm_gX7 σ α) rfl 3 (by decide) k_0 (fun _ h9 => h9) rfl dX7_step_170 ?_
      refine lv_aload_n hx hb dX7_step_173 rfl (lv_at hl 0 rfl) ?_
      refine va_get (D := D) (ci := 7) (v := .ref (α.1 1)) (C := RX7) (T := TX7) (N := 13) hx hb hts in_X7 hown hK hP 7 (sm_gX7 σ α) rfl 3 (by decide) k_0 (fun _ h9 => h9) rfl dX7_step_174 ?_
      refine va_get (D := D) (ci := 1) (v := .int (σ.1 10)) (C := RX1) (T := TX1) (N := 16) hx hb hts in_X1 hown hK hP 1 (sm_gX1 σ α) rfl 12 (by decide) k_3 (fun _ h9 => h9) rfl dX7_step_177 ?_
      refine lv_iconst (v := 1) hx hb dX7_step_180 (by decide) ?_
      refine lv_iadd hx hb dX7_step_181 ?_
      refine lv_aload_n hx hb dX7_step_182 rfl (lv_at hl 0 rfl) ?_
      refine va_get (D := D) (ci := 7) (v := .int (σ.1 26)) (C := RX7) (T := TX7) (N := 13) hx hb hts in_X7 hown hK hP 7 (sm_gX7 σ α) rfl 10 (by decide) k_4 (fun _ h9 => h9) rfl dX7_step_183 ?_
      refine lv_i2l hx hb dX7_step_186 rfl ?_
      refine sm_vv (As := [.int ((σ.1 10) + 1), .long ((σ.1 26).toInt64)]) (rest := []) hP hK hD hE hS hA ⟨hx, hb, hml, hown, hts⟩ hl.1 (c_X1_put l D H.size t0 σ α ((σ.1 10) + 1) ((σ.1 26).toInt64) _ hF) (cwV 2 hts wg_X7_step_X1_put_110 rfl rfl rfl (by decide +kernel) ⟨Nat.le_of_ble_eq_true rfl, Nat.le_of_ble_eq_true rfl⟩) (va_recv hK hP (ci := 1) (q0 := 1) rfl (sm_gX1 σ α)) rfl rfl (Nat.le_of_ble_eq_true rfl) dX7_step_187 ⟨Nat.zero_le _, Nat.zero_le _⟩ (fun σ9 H locs hF hP hS => ?_)
      refine lv_aload_n hx hb dX7_step_190 rfl (lv_at hl 0 rfl) ?_
      refine va_get (D := D) (ci := 7) (v := .ref (α.1 1)) (C := RX7) (T := TX7) (N := 13) hx hb hts in_X7 hown hK hP 7 (sm_gX7 σ9 α) rfl 3 (by decide) k_0 (fun _ h9 => h9) rfl dX7_step_191 ?_
      refine lv_aload_n hx hb dX7_step_194 rfl (lv_at hl 0 rfl) ?_
      refine va_get (D := D) (ci := 7) (v := .ref (α.1 1)) (C := RX7) (T := TX7) (N := 13) hx hb hts in_X7 hown hK hP 7 (sm_gX7 σ9 α) rfl 3 (by decide) k_0 (fun _ h9 => h9) rfl dX7_step_195 ?_
      refine va_get (D := D) (ci := 1) (v := .int (σ9.1 10)) (C := RX1) (T := TX1) (N := 16) hx hb hts in_X1 hown hK hP 1 (sm_gX1 σ9 α) rfl 12 (by decide) k_3 (fun _ h9 => h9) rfl dX7_step_198 ?_
      refine lv_iconst (v := 2) hx hb dX7_step_201 (by decide) ?_
      refine lv_iadd hx hb dX7_step_202 ?_
      refine lv_aload_n hx hb dX7_step_203 rfl (lv_at hl 0 rfl) ?_
      refine va_get (D := D) (ci := 7) (v := .int (σ9.1 27)) (C := RX7) (T := TX7) (N := 13) hx hb hts in_X7 hown hK hP 7 (sm_gX7 σ9 α) rfl 11 (by decide) k_5 (fun _ h9 => h9) rfl dX7_step_204 ?_
      refine lv_i2l hx hb dX7_step_207 rfl ?_
      refine sm_vv (As := [.int ((σ9.1 10) + 2), .long ((σ9.1 27).toInt64)]) (rest := []) hP hK hD hE hS hA ⟨hx, hb, hml, hown, hts⟩ hl.1 (c_X1_put l D H.size t0 σ9 α ((σ9.1 10) + 2) ((σ9.1 27).toInt64) _ hF) (cwV 2 hts wg_X7_step_X1_put_110 rfl rfl rfl (by decide +kernel) ⟨Nat.le_of_ble_eq_true rfl, Nat.le_of_ble_eq_true rfl⟩) (va_recv hK hP (ci := 1) (q0 := 1) rfl (sm_gX1 σ9 α)) rfl rfl (Nat.le_of_ble_eq_true rfl) dX7_step_208 ⟨Nat.zero_le _, Nat.zero_le _⟩ (fun σ10 H locs hF hP hS => ?_)
      refine lv_goto (tgt := 224) hx hb dX7_step_211 (by decide) ?_
      exact B224 σ10 x1 hF H locs ls hP hS (lv_sub hl [0, 1] rfl)
  have B154 : ∀ (σ : sm_S) (y0 : Int32), mp_X7_step_154 K σ y0 → sm_J p l e (headSpec wp_X7_step { frames := 6, cells := 0, slots := 0, locals := 144 }).room s m ([.ref (α.1 7)] : List Value).toArray below meth c (MQ below (va_Qi K (sm_B sm_wX D α) A) ([.ref (α.1 7)] : List Value).toArray s 0 0 A) D A 3 (sm_wX σ α) 154 [(0, .ref (α.1 7))] [.int y0] := by
    intro σ y0 hF H locs ls hP hS hl
    unfold mp_X7_step_154 at hF
    refine lv_istore_n (lv' := [(1, .int y0), (0, .ref (α.1 7))]) hx hb dX7_step_154 rfl hl (by decide) rfl (fun ls hl => ?_)
    refine lv_goto (tgt := 164) hx hb dX7_step_155 (by decide) ?_
    exact B164 σ y0 hF H locs ls hP hS (lv_sub hl [1, 0] rfl)
  unfold mp_X7_step at hF
  revert hP hS
  generalize hLo : ([] : List Loc) = locs
  suffices h9 : ∀ (H : Heap) (locs : List Loc), va_P D vwCl (sm_wX σ α) H → va_S A s.heap H locs → W p l e (headSpec wp_X7_step { frames := 6, cells := 0, slots := 0, locals := 144 }).room s m ([.ref (α.1 7)] : List Value).toArray below meth c H locs 0 0 (MQ below (va_Qi K (sm_B sm_wX D α) A) ([.ref (α.1 7)] : List Value).toArray s 0 0 A) (F0 m 0 ls []) from fun hP hS => h9 s.heap locs hP hS
  intro H locs hP hS
  refine lv_aload_n hx hb dX7_step_0 rfl (lv_at hl 0 rfl) ?_
  refine va_get (D := D) (ci := 7) (v := .ref (α.1 1)) (C := RX7) (T := TX7) (N := 13) hx hb hts in_X7 hown hK hP 7 (sm_gX7 σ α) rfl 3 (by decide) k_0 (fun _ h9 => h9) rfl dX7_step_1 ?_
  refine sm_vv (As := []) (rest := []) hP hK hD hE hS hA ⟨hx, hb, hml, hown, hts⟩ hl.1 (c_X1_beginStep l D H.size t0 σ α _ hF) (cwV 0 hts wg_X7_step_X1_beginStep_58 rfl rfl rfl (by decide +kernel) ⟨Nat.le_of_ble_eq_true rfl, Nat.le_of_ble_eq_true rfl⟩) (va_recv hK hP (ci := 1) (q0 := 1) rfl (sm_gX1 σ α)) rfl rfl (Nat.le_of_ble_eq_true rfl) dX7_step_4 ⟨Nat.zero_le _, Nat.zero_le _⟩ (fun σ11 H locs hF hP hS => ?_)
  refine lv_bipush (v := -2) hx hb dX7_step_7 (by decide) ?_
  refine lv_topi (fun v12 ev12 => ?_)
  replace hF := hF v12 ev12
  refine lv_istore_n (lv' := [(1, .int v12), (0, .ref (α.1 7))]) hx hb dX7_step_9 rfl hl (by decide) rfl (fun ls hl => ?_)
  refine lv_aload_n hx hb dX7_step_10 rfl (lv_at hl 1 rfl) ?_
  refine va_get (D := D) (ci := 7) (v := .ref (α.1 1)) (C := RX7) (T := TX7) (N := 13) hx hb hts in_X7 hown hK hP 7 (sm_gX7 σ11 α) rfl 3 (by decide) k_0 (fun _ h9 => h9) rfl dX7_step_11 ?_
  refine va_get (D := D) (ci := 1) (v := .int (σ11.1 11)) (C := RX1) (T := TX1) (N := 16) hx hb hts in_X1 hown hK hP 1 (sm_gX1 σ11 α) rfl 13 (by decide) k_6 (fun _ h9 => h9) rfl dX7_step_14 ?_
  refine lv_if_eq (tgt := 27) hx hb dX7_step_17 (by decide) (fun h13 => ?_) (fun h13 => ?_)
  · replace hF := hF.1 h13
    refine lv_aload_n hx hb dX7_step_27 rfl (lv_at hl 1 rfl) ?_
    refine sm_vv (As := []) (rest := []) hP hK hD hE hS hA ⟨hx, hb, hml, hown, hts⟩ hl.1 (c_X7_loadTop l D H.size t0 σ11 α _ hF) (cwV 0 hts wg_X7_step_X7_loadTop_69 rfl rfl rfl (by decide +kernel) ⟨Nat.le_of_ble_eq_true rfl, Nat.le_of_ble_eq_true rfl⟩) (va_recv hK hP (ci := 7) (q0 := 7) rfl (sm_gX7 σ11 α)) rfl rfl (Nat.le_of_ble_eq_true rfl) dX7_step_28 ⟨Nat.zero_le _, Nat.zero_le _⟩ (fun σ14 H locs hF hP hS => ?_)
    refine lv_aload_n hx hb dX7_step_31 rfl (lv_at hl 1 rfl) ?_
    refine lv_iconst (v := 0) hx hb dX7_step_32 (by decide) ?_
    refine sm_vi (As := [.int 0]) (rest := []) hP hK hD hE hS hA ⟨hx, hb, hml, hown, hts⟩ hl.1 (c_X7_operand l D H.size t0 σ14 α 0 _ hF) (cwV 1 hts wg_X7_step_X7_operand_72 rfl rfl rfl (by decide +kernel) ⟨Nat.le_of_ble_eq_true rfl, Nat.le_of_ble_eq_true rfl⟩) (va_recv hK hP (ci := 7) (q0 := 7) rfl (sm_gX7 σ14 α)) rfl rfl (Nat.le_of_ble_eq_true rfl) dX7_step_33 ⟨Nat.zero_le _, Nat.zero_le _⟩ (fun r16 σ15 H locs hF hP hS => ?_)
    refine lv_istore_n (lv' := [(2, .int r16), (1, .int v12), (0, .ref (α.1 7))]) hx hb dX7_step_36 rfl hl (by decide) rfl (fun ls hl => ?_)
    refine lv_aload_n hx hb dX7_step_37 rfl (lv_at hl 2 rfl) ?_
    refine lv_aload_n hx hb dX7_step_38 rfl (lv_at hl 2 rfl) ?_
    refine va_get (D := D) (ci := 7) (v := .int (σ15.1 25)) (C := RX7) (T := TX7) (N := 13) hx hb hts in_X7 hown hK hP 7 (sm_gX7 σ15 α) rfl 9 (by decide) k_7 (fun _ h9 => h9) rfl dX7_step_39 ?_
    refine va_getsN hx hb hE.2.1 hS hown (va_Nw.use rfl (hE.1 (.fieldLinkNest "SteadyMachine$Runner" 78 "SteadyMachine" "SIZE" "[I" "SteadyMachine") (by decide +kernel))) (fun _ h9 => h9) dX7_step_42 ?_
    refine lv_iload_n hx hb dX7_step_45 rfl (lv_at hl 0 rfl) ?_
    obtain ⟨h17, hF⟩ := hF
    refine va_ti hx hb hE.2.2 hS h17 (v := .int (sm_sz r16.toNatClampNeg)) rfl dX7_step_46 ?_
    refine lv_iadd hx hb dX7_step_47 ?_
    refine va_put (D := D) (ci := 7) (v := .int ((σ15.1 25) + (sm_sz r16.toNatClampNeg))) (ty := .int) (C := RX7) (T := TX7) (N := 13) hx hb hts in_X7 tyX7 tyX7_ok nmX7 hown hK hP (hD.to (sm_wX_m _ _)) hS 7 (sm_gX7 σ15 α) rfl 10 (by decide) k_4 (fun _ h9 => h9) rfl (by decide +kernel) rfl rfl (Nat.le_of_ble_eq_true rfl) dX7_step_48 (fun H locs hP _ hS => ?_)
    rw [sm_iX26] at hP
    obtain ⟨σ18, eσ18⟩ : ∃ x : sm_S, x = sm_i σ15 26 ((σ15.1 25) + (sm_sz r16.toNatClampNeg)) := ⟨_, rfl⟩
    replace hF := hF σ18 eσ18
    rw [← eσ18] at hP
    refine lv_iload_n hx hb dX7_step_51 rfl (lv_at hl 0 rfl) ?_
    refine lv_bipush (v := 6) hx hb dX7_step_52 (by decide) ?_
    refine lv_icmp_gt (tgt := 66) hx hb dX7_step_54 (by decide) (fun h19 => ?_) (fun h19 => ?_)
    · replace hF := hF.1 h19
      refine lv_iload_n hx hb dX7_step_66 rfl (lv_at hl 0 rfl) ?_
      refine lv_bipush (v := 18) hx hb dX7_step_67 (by decide) ?_
      refine lv_icmp_gt (tgt := 81) hx hb dX7_step_69 (by decide) (fun h20 => ?_) (fun h20 => ?_)
      · replace hF := hF.1 h20
        refine lv_iload_n hx hb dX7_step_81 rfl (lv_at hl 0 rfl) ?_
        refine lv_bipush (v := 25) hx hb dX7_step_82 (by decide) ?_
        refine lv_icmp_gt (tgt := 96) hx hb dX7_step_84 (by decide) (fun h21 => ?_) (fun h21 => ?_)
        · replace hF := hF.1 h21
          refine lv_iload_n hx hb dX7_step_96 rfl (lv_at hl 0 rfl) ?_
          refine lv_bipush (v := 30) hx hb dX7_step_97 (by decide) ?_
          refine lv_icmp_gt (tgt := 111) hx hb dX7_step_99 (by decide) (fun h22 => ?_) (fun h22 => ?_)
          · replace hF := hF.1 h22
            refine lv_iload_n hx hb dX7_step_111 rfl (lv_at hl 0 rfl) ?_
            refine lv_bipush (v := 34) hx hb dX7_step_112 (by decide) ?_
            refine lv_icmp_gt (tgt := 126) hx hb dX7_step_114 (by decide) (fun h23 => ?_) (fun h23 => ?_)
            · replace hF := hF.1 h23
              refine lv_iload_n hx hb dX7_step_126 rfl (lv_at hl 0 rfl) ?_
              refine lv_bipush (v := 36) hx hb dX7_step_127 (by decide) ?_
              refine lv_icmp_gt (tgt := 158) hx hb dX7_step_129 (by decide) (fun h24 => ?_) (fun h24 => ?_)
              · replace hF := hF.1 h24
                refine lv_aload_n hx hb dX7_step_158 rfl (lv_at hl 2 rfl) ?_
                refine lv_iload_n hx hb dX7_step_159 rfl (lv_at hl 0 rfl) ?_
                refine sm_vi (As := [.int r16]) (rest := []) hP hK hD hE hS hA ⟨hx, hb, hml, hown, hts⟩ hl.1 (c_X7_leaveOrPort l D H.size t0 σ18 α r16 _ hF) (cwV 1 hts wg_X7_step_X7_leaveOrPort_104 rfl rfl rfl (by decide +kernel) ⟨Nat.le_of_ble_eq_true rfl, Nat.le_of_ble_eq_true rfl⟩) (va_recv hK hP (ci := 7) (q0 := 7) rfl (sm_gX7 σ18 α)) rfl rfl (Nat.le_of_ble_eq_true rfl) dX7_step_160 ⟨Nat.zero_le _, Nat.zero_le _⟩ (fun r26 σ25 H locs hF hP hS => ?_)
                refine lv_istore_n (lv' := [(1, .int r26), (2, .int r16), (0, .ref (α.1 7))]) hx hb dX7_step_163 rfl hl (by decide) rfl (fun ls hl => ?_)
                exact B164 σ25 r26 hF H locs ls hP hS (lv_sub hl [2, 0] rfl)
              · replace hF := hF.2 h24
                refine lv_iload_n hx hb dX7_step_132 rfl (lv_at hl 0 rfl) ?_
                refine lv_bipush (v := 35) hx hb dX7_step_133 (by decide) ?_
                refine lv_icmp_ne (tgt := 150) hx hb dX7_step_135 (by decide) (fun h27 => ?_) (fun h27 => ?_)
                · replace hF := hF.1 h27
                  refine lv_aload_n hx hb dX7_step_150 rfl (lv_at hl 2 rfl) ?_
                  refine sm_vi (As := []) (rest := []) hP hK hD hE hS hA ⟨hx, hb, hml, hown, hts⟩ hl.1 (c_X7_send l D H.size t0 σ18 α _ hF) (cwV 0 hts wg_X7_step_X7_send_100 rfl rfl rfl (by decide +kernel) ⟨Nat.le_of_ble_eq_true rfl, Nat.le_of_ble_eq_true rfl⟩) (va_recv hK hP (ci := 7) (q0 := 7) rfl (sm_gX7 σ18 α)) rfl rfl (Nat.le_of_ble_eq_true rfl) dX7_step_151 ⟨Nat.zero_le _, Nat.zero_le _⟩ (fun r29 σ28 H locs hF hP hS => ?_)
                  exact B154 σ28 r29 hF H locs ls hP hS (lv_sub hl [2] rfl)
                · replace hF := hF.2 h27
                  refine lv_aload_n hx hb dX7_step_138 rfl (lv_at hl 2 rfl) ?_
                  refine lv_aload_n hx hb dX7_step_139 rfl (lv_at hl 2 rfl) ?_
                  refine lv_iconst (v := 1) hx hb dX7_step_140 (by decide) ?_
                  refine sm_vi (As := [.int 1]) (rest := [.ref (α.1 7)]) hP hK hD hE hS hA ⟨hx, hb, hml, hown, hts⟩ hl.1 (c_X7_operand l D H.size t0 σ18 α 1 _ hF) (cwV 1 hts wg_X7_step_X7_operand_72 rfl rfl rfl (by decide +kernel) ⟨Nat.le_of_ble_eq_true rfl, Nat.le_of_ble_eq_true rfl⟩) (va_recv hK hP (ci := 7) (q0 := 7) rfl (sm_gX7 σ18 α)) rfl rfl (Nat.le_of_ble_eq_true rfl) dX7_step_141 ⟨Nat.zero_le _, Nat.zero_le _⟩ (fun r31 σ30 H locs hF hP hS => ?_)
                  refine sm_vi (As := [.int r31]) (rest := []) hP hK hD hE hS hA ⟨hx, hb, hml, hown, hts⟩ hl.1 (c_X7_enter l D H.size t0 σ30 α r31 _ hF) (cwV 1 hts wg_X7_step_X7_enter_54 rfl rfl rfl (by decide +kernel) ⟨Nat.le_of_ble_eq_true rfl, Nat.le_of_ble_eq_true rfl⟩) (va_recv hK hP (ci := 7) (q0 := 7) rfl (sm_gX7 σ30 α)) rfl rfl (Nat.le_of_ble_eq_true rfl) dX7_step_144 ⟨Nat.zero_le _, Nat.zero_le _⟩ (fun r33 σ32 H locs hF hP hS => ?_)
                  refine lv_goto (tgt := 154) hx hb dX7_step_147 (by decide) ?_
                  exact B154 σ32 r33 hF H locs ls hP hS (lv_sub hl [2] rfl)
            · replace hF := hF.2 h23
              refine lv_aload_n hx hb dX7_step_117 rfl (lv_at hl 2 rfl) ?_
              refine lv_iload_n hx hb dX7_step_118 rfl (lv_at hl 0 rfl) ?_
              refine sm_vi (As := [.int r16]) (rest := []) hP hK hD hE hS hA ⟨hx, hb, hml, hown, hts⟩ hl.1 (c_X7_useRow l D H.size t0 σ18 α r16 _ hF) (cwV 1 hts wg_X7_step_X7_useRow_97 rfl rfl rfl (by decide +kernel) ⟨Nat.le_of_ble_eq_true rfl, Nat.le_of_ble_eq_true rfl⟩) (va_recv hK hP (ci := 7) (q0 := 7) rfl (sm_gX7 σ18 α)) rfl rfl (Nat.le_of_ble_eq_true rfl) dX7_step_119 ⟨Nat.zero_le _, Nat.zero_le _⟩ (fun r35 σ34 H locs hF hP hS => ?_)
              refine lv_istore_n (lv' := [(1, .int r35), (2, .int r16), (0, .ref (α.1 7))]) hx hb dX7_step_122 rfl hl (by decide) rfl (fun ls hl => ?_)
              refine lv_goto (tgt := 164) hx hb dX7_step_123 (by decide) ?_
              exact B164 σ34 r35 hF H locs ls hP hS (lv_sub hl [2, 0] rfl)
          · replace hF := hF.2 h22
            refine lv_aload_n hx hb dX7_step_102 rfl (lv_at hl 2 rfl) ?_
            refine lv_iload_n hx hb dX7_step_103 rfl (lv_at hl 0 rfl) ?_
            refine sm_vi (As := [.int r16]) (rest := []) hP hK hD hE hS hA ⟨hx, hb, hml, hown, hts⟩ hl.1 (c_X7_useObject l D H.size t0 σ18 α r16 _ hF) (cwV 1 hts wg_X7_step_X7_useObject_94 rfl rfl rfl (by decide +kernel) ⟨Nat.le_of_ble_eq_true rfl, Nat.le_of_ble_eq_true rfl⟩) (va_recv hK hP (ci := 7) (q0 := 7) rfl (sm_gX7 σ18 α)) rfl rfl (Nat.le_of_ble_eq_true rfl) dX7_step_104 ⟨Nat.zero_le _, Nat.zero_le _⟩ (fun r37 σ36 H locs hF hP hS => ?_)
            refine lv_istore_n (lv' := [(1, .int r37), (2, .int r16), (0, .ref (α.1 7))]) hx hb dX7_step_107 rfl hl (by decide) rfl (fun ls hl => ?_)
            refine lv_goto (tgt := 164) hx hb dX7_step_108 (by decide) ?_
            exact B164 σ36 r37 hF H locs ls hP hS (lv_sub hl [2, 0] rfl)
        · replace hF := hF.2 h21
          refine lv_aload_n hx hb dX7_step_87 rfl (lv_at hl 2 rfl) ?_
          refine lv_iload_n hx hb dX7_step_88 rfl (lv_at hl 0 rfl) ?_
          refine sm_vi (As := [.int r16]) (rest := []) hP hK hD hE hS hA ⟨hx, hb, hml, hown, hts⟩ hl.1 (c_X7_jump l D H.size t0 σ18 α r16 _ hF) (cwV 1 hts wg_X7_step_X7_jump_91 rfl rfl rfl (by decide +kernel) ⟨Nat.le_of_ble_eq_true rfl, Nat.le_of_ble_eq_true rfl⟩) (va_recv hK hP (ci := 7) (q0 := 7) rfl (sm_gX7 σ18 α)) rfl rfl (Nat.le_of_ble_eq_true rfl) dX7_step_89 ⟨Nat.zero_le _, Nat.zero_le _⟩ (fun r39 σ38 H locs hF hP hS => ?_)
          refine lv_istore_n (lv' := [(1, .int r39), (2, .int r16), (0, .ref (α.1 7))]) hx hb dX7_step_92 rfl hl (by decide) rfl (fun ls hl => ?_)
          refine lv_goto (tgt := 164) hx hb dX7_step_93 (by decide) ?_
          exact B164 σ38 r39 hF H locs ls hP hS (lv_sub hl [2, 0] rfl)
      · replace hF := hF.2 h20
        refine lv_aload_n hx hb dX7_step_72 rfl (lv_at hl 2 rfl) ?_
        refine lv_iload_n hx hb dX7_step_73 rfl (lv_at hl 0 rfl) ?_
        refine sm_vi (As := [.int r16]) (rest := []) hP hK hD hE hS hA ⟨hx, hb, hml, hown, hts⟩ hl.1 (c_X7_reckon l D H.size t0 σ18 α r16 _ hF) (cwV 1 hts wg_X7_step_X7_reckon_88 rfl rfl rfl (by decide +kernel) ⟨Nat.le_of_ble_eq_true rfl, Nat.le_of_ble_eq_true rfl⟩) (va_recv hK hP (ci := 7) (q0 := 7) rfl (sm_gX7 σ18 α)) rfl rfl (Nat.le_of_ble_eq_true rfl) dX7_step_74 ⟨Nat.zero_le _, Nat.zero_le _⟩ (fun r41 σ40 H locs hF hP hS => ?_)
        refine lv_istore_n (lv' := [(1, .int r41), (2, .int r16), (0, .ref (α.1 7))]) hx hb dX7_step_77 rfl hl (by decide) rfl (fun ls hl => ?_)
        refine lv_goto (tgt := 164) hx hb dX7_step_78 (by decide) ?_
        exact B164 σ40 r41 hF H locs ls hP hS (lv_sub hl [2, 0] rfl)
    · replace hF := hF.2 h19
      refine lv_aload_n hx hb dX7_step_57 rfl (lv_at hl 2 rfl) ?_
      refine lv_iload_n hx hb dX7_step_58 rfl (lv_at hl 0 rfl) ?_
      refine sm_vi (As := [.int r16]) (rest := []) hP hK hD hE hS hA ⟨hx, hb, hml, hown, hts⟩ hl.1 (c_X7_moveValues l D H.size t0 σ18 α r16 _ hF) (cwV 1 hts wg_X7_step_X7_moveValues_85 rfl rfl rfl (by decide +kernel) ⟨Nat.le_of_ble_eq_true rfl, Nat.le_of_ble_eq_true rfl⟩) (va_recv hK hP (ci := 7) (q0 := 7) rfl (sm_gX7 σ18 α)) rfl rfl (Nat.le_of_ble_eq_true rfl) dX7_step_59 ⟨Nat.zero_le _, Nat.zero_le _⟩ (fun r43 σ42 H locs hF hP hS => ?_)
      refine lv_istore_n (lv' := [(1, .int r43), (2, .int r16), (0, .ref (α.1 7))]) hx hb dX7_step_62 rfl hl (by decide) rfl (fun ls hl => ?_)
      refine lv_goto (tgt := 164) hx hb dX7_step_63 (by decide) ?_
      exact B164 σ42 r43 hF H locs ls hP hS (lv_sub hl [2, 0] rfl)
  · replace hF := hF.2 h13
    refine lv_aload_n hx hb dX7_step_20 rfl (lv_at hl 1 rfl) ?_
    refine sm_vv (As := []) (rest := []) hP hK hD hE hS hA ⟨hx, hb, hml, hown, hts⟩ hl.1 (c_X7_fly l D H.size t0 σ11 α _ hF) (cwV 0 hts wg_X7_step_X7_fly_66 rfl rfl rfl (by decide +kernel) ⟨Nat.le_of_ble_eq_true rfl, Nat.le_of_ble_eq_true rfl⟩) (va_recv hK hP (ci := 7) (q0 := 7) rfl (sm_gX7 σ11 α)) rfl rfl (Nat.le_of_ble_eq_true rfl) dX7_step_21 ⟨Nat.zero_le _, Nat.zero_le _⟩ (fun σ44 H locs hF hP hS => ?_)
    refine lv_goto (tgt := 224) hx hb dX7_step_24 (by decide) ?_
    exact B224 σ44 v12 hF H locs ls hP hS (lv_sub hl [1, 0] rfl)
