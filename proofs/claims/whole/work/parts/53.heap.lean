theorem dX0_inherit_0 : decode cX0_inherit 0 = .ok (.aload_n 0, 1) := by decide +kernel
theorem dX0_inherit_1 : decode cX0_inherit 1 = .ok (.getfield 9, 3) := by decide +kernel
theorem dX0_inherit_4 : decode cX0_inherit 4 = .ok (.iload_n 1, 1) := by decide +kernel
theorem dX0_inherit_5 : decode cX0_inherit 5 = .ok (.iload_n 2, 1) := by decide +kernel
theorem dX0_inherit_6 : decode cX0_inherit 6 = .ok (.iastore, 1) := by decide +kernel
theorem dX0_inherit_7 : decode cX0_inherit 7 = .ok (.aload_n 0, 1) := by decide +kernel
theorem dX0_inherit_8 : decode cX0_inherit 8 = .ok (.getfield 15, 3) := by decide +kernel
theorem dX0_inherit_11 : decode cX0_inherit 11 = .ok (.iload_n 1, 1) := by decide +kernel
theorem dX0_inherit_12 : decode cX0_inherit 12 = .ok (.iload_n 2, 1) := by decide +kernel
theorem dX0_inherit_13 : decode cX0_inherit 13 = .ok (.iconst (-1), 1) := by decide +kernel
theorem dX0_inherit_14 : decode cX0_inherit 14 = .ok (.if_icmp .ne 7, 3) := by decide +kernel
theorem dX0_inherit_17 : decode cX0_inherit 17 = .ok (.iconst 0, 1) := by decide +kernel
theorem dX0_inherit_18 : decode cX0_inherit 18 = .ok (.goto 9, 3) := by decide +kernel
theorem dX0_inherit_21 : decode cX0_inherit 21 = .ok (.aload_n 0, 1) := by decide +kernel
theorem dX0_inherit_22 : decode cX0_inherit 22 = .ok (.getfield 15, 3) := by decide +kernel
theorem dX0_inherit_25 : decode cX0_inherit 25 = .ok (.iload_n 2, 1) := by decide +kernel
theorem dX0_inherit_26 : decode cX0_inherit 26 = .ok (.iaload, 1) := by decide +kernel
theorem dX0_inherit_27 : decode cX0_inherit 27 = .ok (.iastore, 1) := by decide +kernel
theorem dX0_inherit_28 : decode cX0_inherit 28 = .ok (.iconst 0, 1) := by decide +kernel
theorem dX0_inherit_29 : decode cX0_inherit 29 = .ok (.istore_n 3, 1) := by decide +kernel
theorem dX0_inherit_30 : decode cX0_inherit 30 = .ok (.iload_n 3, 1) := by decide +kernel
theorem dX0_inherit_31 : decode cX0_inherit 31 = .ok (.bipush 15, 2) := by decide +kernel
theorem dX0_inherit_33 : decode cX0_inherit 33 = .ok (.if_icmp .ge 40, 3) := by decide +kernel
theorem dX0_inherit_36 : decode cX0_inherit 36 = .ok (.aload_n 0, 1) := by decide +kernel
theorem dX0_inherit_37 : decode cX0_inherit 37 = .ok (.getfield 18, 3) := by decide +kernel
theorem dX0_inherit_40 : decode cX0_inherit 40 = .ok (.iload_n 1, 1) := by decide +kernel
theorem dX0_inherit_41 : decode cX0_inherit 41 = .ok (.bipush 15, 2) := by decide +kernel
theorem dX0_inherit_43 : decode cX0_inherit 43 = .ok (.imul, 1) := by decide +kernel
theorem dX0_inherit_44 : decode cX0_inherit 44 = .ok (.iload_n 3, 1) := by decide +kernel
theorem dX0_inherit_45 : decode cX0_inherit 45 = .ok (.iadd, 1) := by decide +kernel
theorem dX0_inherit_46 : decode cX0_inherit 46 = .ok (.iload_n 2, 1) := by decide +kernel
theorem dX0_inherit_47 : decode cX0_inherit 47 = .ok (.iconst (-1), 1) := by decide +kernel
theorem dX0_inherit_48 : decode cX0_inherit 48 = .ok (.if_icmp .ne 7, 3) := by decide +kernel
theorem dX0_inherit_51 : decode cX0_inherit 51 = .ok (.iconst 0, 1) := by decide +kernel
theorem dX0_inherit_52 : decode cX0_inherit 52 = .ok (.goto 14, 3) := by decide +kernel
theorem dX0_inherit_55 : decode cX0_inherit 55 = .ok (.aload_n 0, 1) := by decide +kernel
theorem dX0_inherit_56 : decode cX0_inherit 56 = .ok (.getfield 18, 3) := by decide +kernel
theorem dX0_inherit_59 : decode cX0_inherit 59 = .ok (.iload_n 2, 1) := by decide +kernel
theorem dX0_inherit_60 : decode cX0_inherit 60 = .ok (.bipush 15, 2) := by decide +kernel
theorem dX0_inherit_62 : decode cX0_inherit 62 = .ok (.imul, 1) := by decide +kernel
theorem dX0_inherit_63 : decode cX0_inherit 63 = .ok (.iload_n 3, 1) := by decide +kernel
theorem dX0_inherit_64 : decode cX0_inherit 64 = .ok (.iadd, 1) := by decide +kernel
theorem dX0_inherit_65 : decode cX0_inherit 65 = .ok (.iaload, 1) := by decide +kernel
theorem dX0_inherit_66 : decode cX0_inherit 66 = .ok (.iastore, 1) := by decide +kernel
theorem dX0_inherit_67 : decode cX0_inherit 67 = .ok (.iinc 3 1, 3) := by decide +kernel
theorem dX0_inherit_70 : decode cX0_inherit 70 = .ok (.goto (-40), 3) := by decide +kernel
theorem dX0_inherit_73 : decode cX0_inherit 73 = .ok (.iconst 0, 1) := by decide +kernel
theorem dX0_inherit_74 : decode cX0_inherit 74 = .ok (.istore_n 3, 1) := by decide +kernel
theorem dX0_inherit_75 : decode cX0_inherit 75 = .ok (.iload_n 3, 1) := by decide +kernel
theorem dX0_inherit_76 : decode cX0_inherit 76 = .ok (.bipush 16, 2) := by decide +kernel
theorem dX0_inherit_78 : decode cX0_inherit 78 = .ok (.if_icmp .ge 52, 3) := by decide +kernel
theorem dX0_inherit_81 : decode cX0_inherit 81 = .ok (.aload_n 0, 1) := by decide +kernel
theorem dX0_inherit_82 : decode cX0_inherit 82 = .ok (.getfield 21, 3) := by decide +kernel
theorem dX0_inherit_85 : decode cX0_inherit 85 = .ok (.iload_n 1, 1) := by decide +kernel
theorem dX0_inherit_86 : decode cX0_inherit 86 = .ok (.bipush 16, 2) := by decide +kernel
theorem dX0_inherit_88 : decode cX0_inherit 88 = .ok (.imul, 1) := by decide +kernel
theorem dX0_inherit_89 : decode cX0_inherit 89 = .ok (.iload_n 3, 1) := by decide +kernel
theorem dX0_inherit_90 : decode cX0_inherit 90 = .ok (.iadd, 1) := by decide +kernel
theorem dX0_inherit_91 : decode cX0_inherit 91 = .ok (.iload_n 2, 1) := by decide +kernel
theorem dX0_inherit_92 : decode cX0_inherit 92 = .ok (.iconst (-1), 1) := by decide +kernel
theorem dX0_inherit_93 : decode cX0_inherit 93 = .ok (.if_icmp .ne 7, 3) := by decide +kernel
theorem dX0_inherit_96 : decode cX0_inherit 96 = .ok (.iconst (-1), 1) := by decide +kernel
theorem dX0_inherit_97 : decode cX0_inherit 97 = .ok (.goto 14, 3) := by decide +kernel
theorem dX0_inherit_100 : decode cX0_inherit 100 = .ok (.aload_n 0, 1) := by decide +kernel
theorem dX0_inherit_101 : decode cX0_inherit 101 = .ok (.getfield 21, 3) := by decide +kernel
theorem dX0_inherit_104 : decode cX0_inherit 104 = .ok (.iload_n 2, 1) := by decide +kernel
theorem dX0_inherit_105 : decode cX0_inherit 105 = .ok (.bipush 16, 2) := by decide +kernel
theorem dX0_inherit_107 : decode cX0_inherit 107 = .ok (.imul, 1) := by decide +kernel
theorem dX0_inherit_108 : decode cX0_inherit 108 = .ok (.iload_n 3, 1) := by decide +kernel
theorem dX0_inherit_109 : decode cX0_inherit 109 = .ok (.iadd, 1) := by decide +kernel
theorem dX0_inherit_110 : decode cX0_inherit 110 = .ok (.iaload, 1) := by decide +kernel
theorem dX0_inherit_111 : decode cX0_inherit 111 = .ok (.iastore, 1) := by decide +kernel
theorem dX0_inherit_112 : decode cX0_inherit 112 = .ok (.aload_n 0, 1) := by decide +kernel
theorem dX0_inherit_113 : decode cX0_inherit 113 = .ok (.getfield 24, 3) := by decide +kernel
theorem dX0_inherit_116 : decode cX0_inherit 116 = .ok (.iload_n 1, 1) := by decide +kernel
theorem dX0_inherit_117 : decode cX0_inherit 117 = .ok (.bipush 16, 2) := by decide +kernel
theorem dX0_inherit_119 : decode cX0_inherit 119 = .ok (.imul, 1) := by decide +kernel
theorem dX0_inherit_120 : decode cX0_inherit 120 = .ok (.iload_n 3, 1) := by decide +kernel
theorem dX0_inherit_121 : decode cX0_inherit 121 = .ok (.iadd, 1) := by decide +kernel
theorem dX0_inherit_122 : decode cX0_inherit 122 = .ok (.iconst (-1), 1) := by decide +kernel
theorem dX0_inherit_123 : decode cX0_inherit 123 = .ok (.iastore, 1) := by decide +kernel
theorem dX0_inherit_124 : decode cX0_inherit 124 = .ok (.iinc 3 1, 3) := by decide +kernel
theorem dX0_inherit_127 : decode cX0_inherit 127 = .ok (.goto (-52), 3) := by decide +kernel
theorem dX0_inherit_130 : decode cX0_inherit 130 = .ok (.return_, 1) := by decide +kernel
def wp_X0_inherit : List Cond := .code yX0_inherit cX0_inherit 4 none :: ([.fieldLink RX0 24 "SteadyMachine$Classes" "slotPlace" "[I", .fieldLink RX0 21 "SteadyMachine$Classes" "slot" "[I", .fieldLink RX0 18 "SteadyMachine$Classes" "fieldType" "[I", .fieldLink RX0 9 "SteadyMachine$Classes" "upper" "[I", .fieldLink RX0 15 "SteadyMachine$Classes" "fields" "[I"] ++ wsX00)
theorem wq_X0_inherit : wp_X0_inherit.all goodWord = true := wa_c rfl (wa_a (by decide +kernel) uq_X0)
theorem wt_X0_inherit : GoodIn lw_tbl wp_X0_inherit := wm_c (List.mem_of_getElem? (i := 664) (by decide +kernel)) rfl (wm_a (goodIn_r _ [191, 186, 182, 175, 177] (by decide +kernel) (by decide +kernel)) ut_X0)
theorem wi_X0_inherit_X0 : ∀ w ∈ wsX00, w ∈ wp_X0_inherit := fun w h => List.mem_cons_of_mem _ (List.mem_append_right _ h)
set_option maxHeartbeats 4000000 in
set_option maxRecDepth 100000 in
theorem c_X0_inherit (l : Launch) (D : va_G) (sz t0 : Nat) (σ : sm_S) (α : sm_A) (p1 : Int32) (p2 : Int32) (K : sm_S → Prop) (hF : mp_X0_inherit σ p1 p2 K) : Met l yX0_inherit wp_X0_inherit { frames := 0, cells := 0, slots := 0, locals := 0 } (sm_P sm_wX sm_tX 37 D sz t0 σ α [.ref (α.1 0), .int p1, .int p2]) (va_Qv K (sm_B sm_wX D α) (sm_a α 37 sz)) 0 0 (sm_a α 37 sz) := by
  refine Met.ofW (cc := cX0_inherit) (maxL := 4) (ret := none) (by decide) rfl ?_
  intro p e s m args below meth c s₁ B hml hv
  obtain ⟨rfl, hsz, hP, hK, hD0, hE⟩ := hv
  have hx := B.exec
  have hb := B.bytes
  have hr := B.returns
  have hts := atoms_spec (ws := wp_X0_inherit) B.pre
  have hown : s.vm.findClass RX0 = some m.cls := findClass_of_methodNamed B.named
  have hlocks := B.notSynchronized
  subst hsz
  have hD : sm_D (sm_a α 37 s.heap.size) α 37 := hD0.own
  have hA : ∀ q : Nat, s.heap.size ≤ q → sm_a α 37 s.heap.size q := fun q h => Or.inr h
  generalize hAe : sm_a α 37 s.heap.size = A at hD hA hE ⊢
  have hS : va_S A s.heap s.heap [] := va_S.rf
  have in_X0 : ∀ w ∈ wsX00, w ∈ wp_X0_inherit := wi_X0_inherit_X0
  have k_0 := hts (.fieldLink RX0 24 "SteadyMachine$Classes" "slotPlace" "[I") (by decide +kernel)
  have k_1 := hts (.fieldLink RX0 21 "SteadyMachine$Classes" "slot" "[I") (by decide +kernel)
  have k_2 := hts (.fieldLink RX0 18 "SteadyMachine$Classes" "fieldType" "[I") (by decide +kernel)
  have k_3 := hts (.fieldLink RX0 9 "SteadyMachine$Classes" "upper" "[I") (by decide +kernel)
  have k_4 := hts (.fieldLink RX0 15 "SteadyMachine$Classes" "fields" "[I") (by decide +kernel)
  have hl := lv_entry ([.ref (α.1 0), .int p1, .int p2]) (n := 4) (Nat.le_of_ble_eq_true rfl)
  rw [lg_entry_eq]
  generalize (lg_sl ([.ref (α.1 0), .int p1, .int p2]) ++ List.replicate (4 - (lg_sl ([.ref (α.1 0), .int p1, .int p2])).length) Slot.unset).toArray = ls at hl ⊢
  have hl : lv_has ls 4 [(0, .ref (α.1 0)), (1, .int p1), (2, .int p2)] := hl
  have B111 : ∀ (L75 : sm_S → Int32 → Int32 → Int32 → Prop) (hL75 : ∀ (σ : sm_S) (x1 : Int32) (x2 : Int32) (x3 : Int32), L75 σ x1 x2 x3 → sm_J p l e (headSpec wp_X0_inherit { frames := 0, cells := 0, slots := 0, locals := 0 }).room s m ([.ref (α.1 0), .int p1, .int p2] : List Value).toArray below meth c (MQ below (va_Qv K (sm_B sm_wX D α) A) ([.ref (α.1 0), .int p1, .int p2] : List Value).toArray s 0 0 A) D A 4 (sm_wX σ α) 75 [(0, .ref (α.1 0)), (1, .int x1), (2, .int x2), (3, .int x3)] []) (σ : sm_S) (x1 : Int32) (x2 : Int32) (x3 : Int32) (y1 : Int32) (y2 : Int32), mp_X0_inherit_111 L75 K σ x1 x2 x3 y1 y2 → sm_J p l e (headSpec wp_X0_inherit { frames := 0, cells := 0, slots := 0, locals := 0 }).room s m ([.ref (α.1 0), .int p1, .int p2] : List Value).toArray below meth c (MQ below (va_Qv K (sm_B sm_wX D α) A) ([.ref (α.1 0), .int p1, .int p2] : List Value).toArray s 0 0 A) D A 4 (sm_wX σ α) 111 [(0, .ref (α.1 0)), (1, .int x1), (2, .int x2), (3, .int x3)] [.int y2, .int y1, .ref (α.1 14)] := by
    intro L75 hL75 σ x1 x2 x3 y1 y2 hF H locs ls hP hS hl
    unfold mp_X0_inherit_111 at hF
    obtain ⟨h1, hF⟩ := hF
    refine va_iast (n := (σ.2.2.1 14)) (f := (σ.2.2.2.1 14)) (x := y2) hx hb hK hP (hD.to (sm_wX_m _ _)) hS 14 3 (sm_aX14 σ α) (sm_yX14 α) h1 dX0_inherit_111 (fun H locs hP _ hS => ?_)
    rw [sm_rX14] at hP
    obtain ⟨σ2, eσ2⟩ : ∃ x : sm_S, x = sm_r σ 14 (upd (σ.2.2.2.1 14) y1.toNatClampNeg y2) := ⟨_, rfl⟩
    replace hF := hF σ2 eσ2
    rw [← eσ2] at hP
    refine lv_aload_n hx hb dX0_inherit_112 rfl (lv_at hl 0 rfl) ?_
    refine va_get (D := D) (ci := 0) (v := .ref (α.1 15)) (C := RX0) (T := TX0) (N := 7) hx hb hts in_X0 hown hK hP 0 (sm_gX0 σ2 α) rfl 5 (by decide) k_0 (fun _ h9 => h9) rfl dX0_inherit_113 ?_
    refine lv_iload_n hx hb dX0_inherit_116 rfl (lv_at hl 1 rfl) ?_
    refine lv_bipush (v := 16) hx hb dX0_inherit_117 (by decide) ?_
    refine lv_imul hx hb dX0_inherit_119 ?_
    refine lv_iload_n hx hb dX0_inherit_120 rfl (lv_at hl 3 rfl) ?_
    refine lv_iadd hx hb dX0_inherit_121 ?_
    refine lv_iconst (v := -1) hx hb dX0_inherit_122 (by decide) ?_
    obtain ⟨h3, hF⟩ := hF
    refine va_iast (n := (σ2.2.2.1 15)) (f := (σ2.2.2.2.1 15)) (x := (-1)) hx hb hK hP (hD.to (sm_wX_m _ _)) hS 15 4 (sm_aX15 σ2 α) (sm_yX15 α) h3 dX0_inherit_123 (fun H locs hP _ hS => ?_)
    rw [sm_rX15] at hP
    obtain ⟨σ4, eσ4⟩ : ∃ x : sm_S, x = sm_r σ2 15 (upd (σ2.2.2.2.1 15) ((x1 * 16) + x3).toNatClampNeg (-1)) := ⟨_, rfl⟩
    replace hF := hF σ4 eσ4
    rw [← eσ4] at hP
    obtain ⟨v5, ev5⟩ : ∃ y : Int32, y = x3 + 1 := ⟨_, rfl⟩
    replace hF := hF v5 ev5
    refine lv_iinc (v := v5) (lv' := [(3, .int v5), (0, .ref (α.1 0)), (1, .int x1), (2, .int x2)]) hx hb dX0_inherit_124 hl (k := 3) rfl (by rw [ev5]; rfl) (by decide) rfl (fun ls hl => ?_)
    refine lv_goto (tgt := 75) hx hb dX0_inherit_127 (by decide) ?_
    exact hL75 σ4 x1 x2 v5 hF H locs ls hP hS (lv_sub hl [1, 2, 3, 0] rfl)
  have B75 : ∀ (n : Nat) (σ : sm_S) (x1 : Int32) (x2 : Int32) (x3 : Int32), mp_X0_inherit_75 K n σ x1 x2 x3 → sm_J p l e (headSpec wp_X0_inherit { frames := 0, cells := 0, slots := 0, locals := 0 }).room s m ([.ref (α.1 0), .int p1, .int p2] : List Value).toArray below meth c (MQ below (va_Qv K (sm_B sm_wX D α) A) ([.ref (α.1 0), .int p1, .int p2] : List Value).toArray s 0 0 A) D A 4 (sm_wX σ α) 75 [(0, .ref (α.1 0)), (1, .int x1), (2, .int x2), (3, .int x3)] [] := by
    intro n75
    induction n75 with
    | zero =>
      intro σ x1 x2 x3 hF
      exact hF.elim
    | succ n75 ih75 =>
      intro σ x1 x2 x3 hF H locs ls hP hS hl
      unfold mp_X0_inherit_75 at hF
      refine lv_iload_n hx hb dX0_inherit_75 rfl (lv_at hl 3 rfl) ?_
      refine lv_bipush (v := 16) hx hb dX0_inherit_76 (by decide) ?_
      refine lv_icmp_ge (tgt := 130) hx hb dX0_inherit_78 (by decide) (fun h6 => ?_) (fun h6 => ?_)
      · replace hF := hF.1 h6
        exact W.vret hx hb hr (fun t ht hW => ⟨⟨σ, rfl, hF, (by unfold sm_B; rw [ht]; exact hP)⟩, hS.F ht⟩) hS.2.2 dX0_inherit_130
      · replace hF := hF.2 h6
        refine lv_aload_n hx hb dX0_inherit_81 rfl (lv_at hl 0 rfl) ?_
        refine va_get (D := D) (ci := 0) (v := .ref (α.1 14)) (C := RX0) (T := TX0) (N := 7) hx hb hts in_X0 hown hK hP 0 (sm_gX0 σ α) rfl 4 (by decide) k_1 (fun _ h9 => h9) rfl dX0_inherit_82 ?_
        refine lv_iload_n hx hb dX0_inherit_85 rfl (lv_at hl 1 rfl) ?_
        refine lv_bipush (v := 16) hx hb dX0_inherit_86 (by decide) ?_
        refine lv_imul hx hb dX0_inherit_88 ?_
        refine lv_iload_n hx hb dX0_inherit_89 rfl (lv_at hl 3 rfl) ?_
        refine lv_iadd hx hb dX0_inherit_90 ?_
        refine lv_iload_n hx hb dX0_inherit_91 rfl (lv_at hl 2 rfl) ?_
        refine lv_iconst (v := -1) hx hb dX0_inherit_92 (by decide) ?_
        refine lv_icmp_ne (tgt := 100) hx hb dX0_inherit_93 (by decide) (fun h7 => ?_) (fun h7 => ?_)
        · replace hF := hF.1 h7
          refine lv_aload_n hx hb dX0_inherit_100 rfl (lv_at hl 0 rfl) ?_
          refine va_get (D := D) (ci := 0) (v := .ref (α.1 14)) (C := RX0) (T := TX0) (N := 7) hx hb hts in_X0 hown hK hP 0 (sm_gX0 σ α) rfl 4 (by decide) k_1 (fun _ h9 => h9) rfl dX0_inherit_101 ?_
          refine lv_iload_n hx hb dX0_inherit_104 rfl (lv_at hl 2 rfl) ?_
          refine lv_bipush (v := 16) hx hb dX0_inherit_105 (by decide) ?_
          refine lv_imul hx hb dX0_inherit_107 ?_
          refine lv_iload_n hx hb dX0_inherit_108 rfl (lv_at hl 3 rfl) ?_
          refine lv_iadd hx hb dX0_inherit_109 ?_
          obtain ⟨h8, hF⟩ := hF
          refine va_iald (n := (σ.2.2.1 14)) (f := (σ.2.2.2.1 14)) hx hb hK hP 14 3 (sm_aX14 σ α) (sm_yX14 α) h8 dX0_inherit_110 ?_
          exact B111 (mp_X0_inherit_75 K n75) ih75 σ x1 x2 x3 ((x1 * 16) + x3) ((σ.2.2.2.1 14) ((x2 * 16) + x3).toNatClampNeg) hF H locs ls hP hS (lv_sub hl [0, 1, 2, 3] rfl)
        · replace hF := hF.2 h7
          refine lv_iconst (v := -1) hx hb dX0_inherit_96 (by decide) ?_
          refine lv_goto (tgt := 111) hx hb dX0_inherit_97 (by decide) ?_
          exact B111 (mp_X0_inherit_75 K n75) ih75 σ x1 x2 x3 ((x1 * 16) + x3) (-1) hF H locs ls hP hS (lv_sub hl [0, 1, 2, 3] rfl)
  have B66 : ∀ (L30 : sm_S → Int32 → Int32 → Int32 → Prop) (hL30 : ∀ (σ : sm_S) (x1 : Int32) (x2 : Int32) (x3 : Int32), L30 σ x1 x2 x3 → sm_J p l e (headSpec wp_X0_inherit { frames := 0, cells := 0, slots := 0, locals := 0 }).room s m ([.ref (α.1 0), .int p1, .int p2] : List Value).toArray below meth c (MQ below (va_Qv K (sm_B sm_wX D α) A) ([.ref (α.1 0), .int p1, .int p2] : List Value).toArray s 0 0 A) D A 4 (sm_wX σ α) 30 [(0, .ref (α.1 0)), (1, .int x1), (2, .int x2), (3, .int x3)] []) (σ : sm_S) (x1 : Int32) (x2 : Int32) (x3 : Int32) (y1 : Int32) (y2 : Int32), mp_X0_inherit_66 L30 K σ x1 x2 x3 y1 y2 → sm_J p l e (headSpec wp_X0_inherit { frames := 0, cells := 0, slots := 0, locals := 0 }).room s m ([.ref (α.1 0), .int p1, .int p2] : List Value).toArray below meth c (MQ below (va_Qv K (sm_B sm_wX D α) A) ([.ref (α.1 0), .int p1, .int p2] : List Value).toArray s 0 0 A) D A 4 (sm_wX σ α) 66 [(0, .ref (α.1 0)), (1, .int x1), (2, .int x2), (3, .int x3)] [.int y2, .int y1, .ref (α.1 13)] := by
    intro L30 hL30 σ x1 x2 x3 y1 y2 hF H locs ls hP hS hl
    unfold mp_X0_inherit_66 at hF
    obtain ⟨h9, hF⟩ := hF
    refine va_iast (n := (σ.2.2.1 13)) (f := (σ.2.2.2.1 13)) (x := y2) hx hb hK hP (hD.to (sm_wX_m _ _)) hS 13 2 (sm_aX13 σ α) (sm_yX13 α) h9 dX0_inherit_66 (fun H locs hP _ hS => ?_)
    rw [sm_rX13] at hP
    obtain ⟨σ10, eσ10⟩ : ∃ x : sm_S, x = sm_r σ 13 (upd (σ.2.2.2.1 13) y1.toNatClampNeg y2) := ⟨_, rfl⟩
    replace hF := hF σ10 eσ10
    rw [← eσ10] at hP
    obtain ⟨v11, ev11⟩ : ∃ y : Int32, y = x3 + 1 := ⟨_, rfl⟩
    replace hF := hF v11 ev11
    refine lv_iinc (v := v11) (lv' := [(3, .int v11), (0, .ref (α.1 0)), (1, .int x1), (2, .int x2)]) hx hb dX0_inherit_67 hl (k := 3) rfl (by rw [ev11]; rfl) (by decide) rfl (fun ls hl => ?_)
    refine lv_goto (tgt := 30) hx hb dX0_inherit_70 (by decide) ?_
    exact hL30 σ10 x1 x2 v11 hF H locs ls hP hS (lv_sub hl [1, 2, 3, 0] rfl)
  have B30 : ∀ (n : Nat) (σ : sm_S) (x1 : Int32) (x2 : Int32) (x3 : Int32), mp_X0_inherit_30 K n σ x1 x2 x3 → sm_J p l e (headSpec wp_X0_inherit { frames := 0, cells := 0, slots := 0, locals := 0 }).room s m ([.ref (α.1 0), .int p1, .int p2] : List Value).toArray below meth c (MQ below (va_Qv K (sm_B sm_wX D α) A) ([.ref (α.1 0), .int p1, .int p2] : List Value).toArray s 0 0 A) D A 4 (sm_wX σ α) 30 [(0, .ref (α.1 0)), (1, .int x1), (2, .int x2), (3, .int x3)] [] := by
    intro n30
    induction n30 with
    | zero =>
      intro σ x1 x2 x3 hF
      exact hF.elim
    | succ n30 ih30 =>
      intro σ x1 x2 x3 hF H locs ls hP hS hl
      unfold mp_X0_inherit_30 at hF
      refine lv_iload_n hx hb dX0_inherit_30 rfl (lv_at hl 3 rfl) ?_
      refine lv_bipush (v := 15) hx hb dX0_inherit_31 (by decide) ?_
      refine lv_icmp_ge (tgt := 73) hx hb dX0_inherit_33 (by decide) (fun h12 => ?_) (fun h12 => ?_)
      · replace hF := hF.1 h12
        refine lv_iconst (v := 0) hx hb dX0_inherit_73 (by decide) ?_
        refine lv_istore_n (lv' := [(3, .int 0), (0, .ref (α.1 0)), (1, .int x1), (2, .int x2)]) hx hb dX0_inherit_74 rfl hl (by decide) rfl (fun ls hl => ?_)
        obtain ⟨n75, hF⟩ := hF
        exact B75 n75 σ x1 x2 0 hF H locs ls hP hS (lv_sub hl [1, 2, 3, 0] rfl)
      · replace hF := hF.2 h12
        refine lv_aload_n hx hb dX0_inherit_36 rfl (lv_at hl 0 rfl) ?_
        refine va_get (D := D) (ci := 0) (v := .ref (α.1 13)) (C := RX0) (T := TX0) (N := 7) hx hb hts in_X0 hown hK hP 0 (sm_gX0 σ α) rfl 3 (by decide) k_2 (fun _ h9 => h9) rfl dX0_inherit_37 ?_
        refine lv_iload_n hx hb dX0_inherit_40 rfl (lv_at hl 1 rfl) ?_
        refine lv_bipush (v := 15) hx hb dX0_inherit_41 (by decide) ?_
        refine lv_imul hx hb dX0_inherit_43 ?_
        refine lv_iload_n hx hb dX0_inherit_44 rfl (lv_at hl 3 rfl) ?_
        refine lv_iadd hx hb dX0_inherit_45 ?_
        refine lv_iload_n hx hb dX0_inherit_46 rfl (lv_at hl 2 rfl) ?_
        refine lv_iconst (v := -1) hx hb dX0_inherit_47 (by decide) ?_
        refine lv_icmp_ne (tgt := 55) hx hb dX0_inherit_48 (by decide) (fun h13 => ?_) (fun h13 => ?_)
        · replace hF := hF.1 h13
          refine lv_aload_n hx hb dX0_inherit_55 rfl (lv_at hl 0 rfl) ?_
          refine va_get (D := D) (ci := 0) (v := .ref (α.1 13)) (C := RX0) (T := TX0) (N := 7) hx hb hts in_X0 hown hK hP 0 (sm_gX0 σ α) rfl 3 (by decide) k_2 (fun _ h9 => h9) rfl dX0_inherit_56 ?_
          refine lv_iload_n hx hb dX0_inherit_59 rfl (lv_at hl 2 rfl) ?_
          refine lv_bipush (v := 15) hx hb dX0_inherit_60 (by decide) ?_
          refine lv_imul hx hb dX0_inherit_62 ?_
          refine lv_iload_n hx hb dX0_inherit_63 rfl (lv_at hl 3 rfl) ?_
          refine lv_iadd hx hb dX0_inherit_64 ?_
          obtain ⟨h14, hF⟩ := hF
          refine va_iald (n := (σ.2.2.1 13)) (f := (σ.2.2.2.1 13)) hx hb hK hP 13 2 (sm_aX13 σ α) (sm_yX13 α) h14 dX0_inherit_65 ?_
          exact B66 (mp_X0_inherit_30 K n30) ih30 σ x1 x2 x3 ((x1 * 15) + x3) ((σ.2.2.2.1 13) ((x2 * 15) + x3).toNatClampNeg) hF H locs ls hP hS (lv_sub hl [0, 1, 2, 3] rfl)
        · replace hF := hF.2 h13
          refine lv_iconst (v := 0) hx hb dX0_inherit_51 (by decide) ?_
          refine lv_goto (tgt := 66) hx hb dX0_inherit_52 (by decide) ?_
          exact B66 (mp_X0_inherit_30 K n30) ih30 σ x1 x2 x3 ((x1 * 15) + x3) 0 hF H locs ls hP hS (lv_sub hl [0, 1, 2, 3] rfl)
  have B27 : ∀ (σ : sm_S) (x1 : Int32) (x2 : Int32) (y1 : Int32) (y2 : Int32), mp_X0_inherit_27 K σ x1 x2 y1 y2 → sm_J p l e (headSpec wp_X0_inherit { frames := 0, cells := 0, slots := 0, locals := 0 }).room s m ([.ref (α.1 0), .int p1, .int p2] : List Value).toArray below meth c (MQ below (va_Qv K (sm_B sm_wX D α) A) ([.ref (α.1 0), .int p1, .int p2] : List Value).toArray s 0 0 A) D A 4 (sm_wX σ α) 27 [(0, .ref (α.1 0)), (1, .int x1), (2, .int x2)] [.int y2, .int y1, .ref (α.1 12)] := by
    intro σ x1 x2 y1 y2 hF H locs ls hP hS hl
    unfold mp_X0_inherit_27 at hF
    obtain ⟨h15, hF⟩ := hF
    refine va_iast (n := (σ.2.2.1 12)) (f := (σ.2.2.2.1 12)) (x := y2) hx hb hK hP (hD.to (sm_wX_m _ _)) hS 12 1 (sm_aX12 σ α) (sm_yX12 α) h15 dX0_inherit_27 (fun H locs hP _ hS => ?_)
    rw [sm_rX12] at hP
    obtain ⟨σ16, eσ16⟩ : ∃ x : sm_S, x = sm_r σ 12 (upd (σ.2.2.2.1 12) y1.toNatClampNeg y2) := ⟨_, rfl⟩
    replace hF := hF σ16 eσ16
    rw [← eσ16] at hP
    refine lv_iconst (v := 0) hx hb dX0_inherit_28 (by decide) ?_
    refine lv_istore_n (lv' := [(3, .int 0), (0, .ref (α.1 0)), (1, .int x1), (2, .int x2)]) hx hb dX0_inherit_29 rfl hl (by decide) rfl (fun ls hl => ?_)
    obtain ⟨n30, hF⟩ := hF
    exact B30 n30 σ16 x1 x2 0 hF H locs ls hP hS (lv_sub hl [1, 2, 3, 0] rfl)
  unfold mp_X0_inherit at hF
  revert hP hS
  generalize hLo : ([] : List Loc) = locs
  suffices h9 : ∀ (H : Heap) (locs : List Loc), va_P D vwCl (sm_wX σ α) H → va_S A s.heap H locs → W p l e (headSpec wp_X0_inherit { frames := 0, cells := 0, slots := 0, locals := 0 }).room s m ([.ref (α.1 0), .int p1, .int p2] : List Value).toArray below meth c H locs 0 0 (MQ below (va_Qv K (sm_B sm_wX D α) A) ([.ref (α.1 0), .int p1, .int p2] : List Value).toArray s 0 0 A) (F0 m 0 ls []) from fun hP hS => h9 s.heap locs hP hS
  intro H locs hP hS
  refine lv_aload_n hx hb dX0_inherit_0 rfl (lv_at hl 0 rfl) ?_
  refine va_get (D := D) (ci := 0) (v := .ref (α.1 11)) (C := RX0) (T := TX0) (N := 7) hx hb hts in_X0 hown hK hP 0 (sm_gX0 σ α) rfl 1 (by decide) k_3 (fun _ h9 => h9) rfl dX0_inherit_1 ?_
  refine lv_iload_n hx hb dX0_inherit_4 rfl (lv_at hl 1 rfl) ?_
  refine lv_iload_n hx hb dX0_inherit_5 rfl (lv_at hl 2 rfl) ?_
  obtain ⟨h17, hF⟩ := hF
  refine va_iast (n := (σ.2.2.1 11)) (f := (σ.2.2.2.1 11)) (x := p2) hx hb hK hP (hD.to (sm_wX_m _ _)) hS 11 0 (sm_aX11 σ α) (sm_yX11 α) h17 dX0_inherit_6 (fun H locs hP _ hS => ?_)
  rw [sm_rX11] at hP
  obtain ⟨σ18, eσ18⟩ : ∃ x : sm_S, x = sm_r σ 11 (upd (σ.2.2.2.1 11) p1.toNatClampNeg p2) := ⟨_, rfl⟩
  replace hF := hF σ18 eσ18
  rw [← eσ18] at hP
  refine lv_aload_n hx hb dX0_inherit_7 rfl (lv_at hl 0 rfl) ?_
  refine va_get (D := D) (ci := 0) (v := .ref (α.1 12)) (C := RX0) (T := TX0) (N := 7) hx hb hts in_X0 hown hK hP 0 (sm_gX0 σ18 α) rfl 2 (by decide) k_4 (fun _ h9 => h9) rfl dX0_inherit_8 ?_
  refine lv_iload_n hx hb dX0_inherit_11 rfl (lv_at hl 1 rfl) ?_
  refine lv_iload_n hx hb dX0_inherit_12 rfl (lv_at hl 2 rfl) ?_
  refine lv_iconst (v := -1) hx hb dX0_inherit_13 (by decide) ?_
  refine lv_icmp_ne (tgt := 21) hx hb dX0_inherit_14 (by decide) (fun h19 => ?_) (fun h19 => ?_)
  · replace hF := hF.1 h19
    refine lv_aload_n hx hb dX0_inherit_21 rfl (lv_at hl 0 rfl) ?_
    refine va_get (D := D) (ci := 0) (v := .ref (α.1 12)) (C := RX0) (T := TX0) (N := 7) hx hb hts in_X0 hown hK hP 0 (sm_gX0 σ18 α) rfl 2 (by decide) k_4 (fun _ h9 => h9) rfl dX0_inherit_22 ?_
    refine lv_iload_n hx hb dX0_inherit_25 rfl (lv_at hl 2 rfl) ?_
    obtain ⟨h20, hF⟩ := hF
    refine va_iald (n := (σ18.2.2.1 12)) (f := (σ18.2.2.2.1 12)) hx hb hK hP 12 1 (sm_aX12 σ18 α) (sm_yX12 α) h20 dX0_inherit_26 ?_
    exact B27 σ18 p1 p2 p1 ((σ18.2.2.2.1 12) p2.toNatClampNeg) hF H locs ls hP hS (lv_sub hl [0, 1, 2] rfl)
  · replace hF := hF.2 h19
    refine lv_iconst (v := 0) hx hb dX0_inherit_17 (by decide) ?_
    refine lv_goto (tgt := 27) hx hb dX0_inherit_18 (by decide) ?_
    exact B27 σ18 p1 p2 p1 0 hF H locs ls hP hS (lv_sub hl [0, 1, 2] rfl)
theorem dX0_isOrBelow_0 : decode cX0_isOrBelow 0 = .ok (.iload_n 1, 1) := by decide +kernel
theorem dX0_isOrBelow_1 : decode cX0_isOrBelow 1 = .ok (.istore_n 3, 1) := by decide +kernel
theorem dX0_isOrBelow_2 : decode cX0_isOrBelow 2 = .ok (.iconst 0, 1) := by decide +kernel
theorem dX0_isOrBelow_3 : decode cX0_isOrBelow 3 = .ok (.istore 4, 2) := by decide +kernel
theorem dX0_isOrBelow_5 : decode cX0_isOrBelow 5 = .ok (.iload 4, 2) := by decide +kernel
theorem dX0_isOrBelow_7 : decode cX0_isOrBelow 7 = .ok (.bipush 32, 2) := by decide +kernel
theorem dX0_isOrBelow_9 : decode cX0_isOrBelow 9 = .ok (.if_icmp .ge 28, 3) := by decide +kernel
theorem dX0_isOrBelow_12 : decode cX0_isOrBelow 12 = .ok (.iload_n 3, 1) := by decide +kernel
theorem dX0_isOrBelow_13 : decode cX0_isOrBelow 13 = .ok (.iconst (-1), 1) := by decide +kernel
theorem dX0_isOrBelow_14 : decode cX0_isOrBelow 14 = .ok (.if_icmp .eq 23, 3) := by decide +kernel
theorem dX0_isOrBelow_17 : decode cX0_isOrBelow 17 = .ok (.iload_n 3, 1) := by decide +kernel
theorem dX0_isOrBelow_18 : decode cX0_isOrBelow 18 = .ok (.iload_n 2, 1) := by decide +kernel
theorem dX0_isOrBelow_19 : decode cX0_isOrBelow 19 = .ok (.if_icmp .ne 5, 3) := by decide +kernel
theorem dX0_isOrBelow_22 : decode cX0_isOrBelow 22 = .ok (.iconst 1, 1) := by decide +kernel
theorem dX0_isOrBelow_23 : decode cX0_isOrBelow 23 = .ok (.ireturn, 1) := by decide +kernel
theorem dX0_isOrBelow_24 : decode cX0_isOrBelow 24 = .ok (.aload_n 0, 1) := by decide +kernel
theorem dX0_isOrBelow_25 : decode cX0_isOrBelow 25 = .ok (.getfield 9, 3) := by decide +kernel
theorem dX0_isOrBelow_28 : decode cX0_isOrBelow 28 = .ok (.iload_n 3, 1) := by decide +kernel
theorem dX0_isOrBelow_29 : decode cX0_isOrBelow 29 = .ok (.iaload, 1) := by decide +kernel
theorem dX0_isOrBelow_30 : decode cX0_isOrBelow 30 = .ok (.istore_n 3, 1) := by decide +kernel
theorem dX0_isOrBelow_31 : decode cX0_isOrBelow 31 = .ok (.iinc 4 1, 3) := by decide +kernel
theorem dX0_isOrBelow_34 : decode cX0_isOrBelow 34 = .ok (.goto (-29), 3) := by decide +kernel
theorem dX0_isOrBelow_37 : decode cX0_isOrBelow 37 = .ok (.iconst 0, 1) := by decide +kernel
theorem dX0_isOrBelow_38 : decode cX0_isOrBelow 38 = .ok (.ireturn, 1) := by decide +kernel
def wp_X0_isOrBelow : List Cond := .code yX0_isOrBelow cX0_isOrBelow 5 (some .boolean) :: ([.fieldLink RX0 9 "SteadyMachine$Classes" "upper" "[I"] ++ wsX00)
theorem wq_X0_isOrBelow : wp_X0_isOrBelow.all goodWord = true := wa_c rfl (wa_a (by decide +kernel) uq_X0)
theorem wt_X0_isOrBelow : GoodIn lw_tbl wp_X0_isOrBelow := wm_c (List.mem_of_getElem? (i := 811) (by decide +kernel)) rfl (wm_a (goodIn_r _ [175] (by decide +kernel) (by decide +kernel)) ut_X0)
theorem wi_X0_isOrBelow_X0 : ∀ w ∈ wsX00, w ∈ wp_X0_isOrBelow := fun w h => List.mem_cons_of_mem _ (List.mem_append_right _ h)
set_option maxHeartbeats 4000000 in
set_option maxRecDepth 100000 in
theorem c_X0_isOrBelow (l : Launch) (D : va_G) (sz t0 : Nat) (σ : sm_S) (α : sm_A) (p1 : Int32) (p2 : Int32) (K : Int32 → sm_S → Prop) (hF : mp_X0_isOrBelow σ p1 p2 K) : Met l yX0_isOrBelow wp_X0_isOrBelow { frames := 0, cells := 0, slots := 0, locals := 0 } (sm_P sm_wX sm_tX 37 D sz t0 σ α [.ref (α.1 0), .int p1, .int p2]) (va_Qi K (sm_B sm_wX D α) (sm_a α 37 sz)) 0 0 (sm_a α 37 sz) := by
  refine Met.ofW (cc := cX0_isOrBelow) (maxL := 5) (ret := (some .boolean)) (by decide) rfl ?_
  intro p e s m args below meth c s₁ B hml hv
  obtain ⟨rfl, hsz, hP, hK, hD0, hE⟩ := hv
  have hx := B.exec
  have hb := B.bytes
  have hr := B.returns
  have hts := atoms_spec (ws := wp_X0_isOrBelow) B.pre
  have hown : s.vm.findClass RX0 = some m.cls := findClass_of_methodNamed B.named
  have hlocks := B.notSynchronized
  subst hsz
  have hD : sm_D (sm_a α 37 s.heap.size) α 37 := hD0.own
  have hA : ∀ q : Nat, s.heap.size ≤ q → sm_a α 37 s.heap.size q := fun q h => Or.inr h
  generalize hAe : sm_a α 37 s.heap.size = A at hD hA hE ⊢
  have hS : va_S A s.heap s.heap [] := va_S.rf
  have in_X0 : ∀ w ∈ wsX00, w ∈ wp_X0_isOrBelow := wi_X0_isOrBelow_X0
  have k_0 := hts (.fieldLink RX0 9 "SteadyMachine$Classes" "upper" "[I") (by decide +kernel)
  have hl := lv_entry ([.ref (α.1 0), .int p1, .int p2]) (n := 5) (Nat.le_of_ble_eq_true rfl)
  rw [lg_entry_eq]
  generalize (lg_sl ([.ref (α.1 0), .int p1, .int p2]) ++ List.replicate (5 - (lg_sl ([.ref (α.1 0), .int p1, .int p2])).length) Slot.unset).toArray = ls at hl ⊢
  have hl : lv_has ls 5 [(0, .ref (α.1 0)), (1, .int p1), (2, .int p2)] := hl
  have B37 : ∀ (σ : sm_S), mp_X0_isOrBelow_37 K σ → sm_J p l e (headSpec wp_X0_isOrBelow { frames := 0, cells := 0, slots := 0, locals := 0 }).room s m ([.ref (α.1 0), .int p1, .int p2] : List Value).toArray below meth c (MQ below (va_Qi K (sm_B sm_wX D α) A) ([.ref (α.1 0), .int p1, .int p2] : List Value).toArray s 0 0 A) D A 5 (sm_wX σ α) 37 [] [] := by
    intro σ hF H locs ls hP hS hl
    unfold mp_X0_isOrBelow_37 at hF
    refine lv_iconst (v := 0) hx hb dX0_isOrBelow_37 (by decide) ?_
    exact W.zret (v := 0) hx hb hr sm_z0.1 (fun t ht hW => ⟨⟨0, σ, rfl, hF, (by unfold sm_B; rw [ht]; exact hP)⟩, hS.F ht⟩) hS.2.2 dX0_isOrBelow_38
  have B5 : ∀ (n : Nat) (σ : sm_S) (x2 : Int32) (x3 : Int32) (x4 : Int32), mp_X0_isOrBelow_5 K n σ x2 x3 x4 → sm_J p l e (headSpec wp_X0_isOrBelow { frames := 0, cells := 0, slots := 0, locals := 0 }).room s m ([.ref (α.1 0), .int p1, .int p2] : List Value).toArray below meth c (MQ below (va_Qi K (sm_B sm_wX D α) A) ([.ref (α.1 0), .int p1, .int p2] : List Value).toArray s 0 0 A) D A 5 (sm_wX σ α) 5 [(0, .ref (α.1 0)), (2, .int x2), (3, .int x3), (4, .int x4)] [] := by
    intro n5
    induction n5 with
    | zero =>
      intro σ x2 x3 x4 hF
      exact hF.elim
    | succ n5 ih5 =>
      intro σ x2 x3 x4 hF H locs ls hP hS hl
      unfold mp_X0_isOrBelow_5 at hF
      refine lv_iload hx hb dX0_isOrBelow_5 (lv_at hl 3 rfl) ?_
      refine lv_bipush (v := 32) hx hb dX0_isOrBelow_7 (by decide) ?_
      refine lv_icmp_ge (tgt := 37) hx hb dX0_isOrBelow_9 (by decide) (fun h1 => ?_) (fun h1 => ?_)
      · replace hF := hF.1 h1
        exact B37 σ hF H locs ls hP hS (lv_sub hl [] rfl)
      · replace hF := hF.2 h1
        refine lv_iload_n hx hb dX0_isOrBelow_12 rfl (lv_at hl 2 rfl) ?_
        refine lv_iconst (v := -1) hx hb dX0_isOrBelow_13 (by decide) ?_
        refine lv_icmp_eq (tgt := 37) hx hb dX0_isOrBelow_14 (by decide) (fun h2 => ?_) (fun h2 => ?_)
        · replace hF := hF.1 h2
          exact B37 σ hF H locs ls hP hS (lv_sub hl [] rfl)
        · replace hF := hF.2 h2
          refine lv_iload_n hx hb dX0_isOrBelow_17 rfl (lv_at hl 2 rfl) ?_
          refine lv_iload_n hx hb dX0_isOrBelow_18 rfl (lv_at hl 1 rfl) ?_
          refine lv_icmp_ne (tgt := 24) hx hb dX0_isOrBelow_19 (by decide) (fun h3 => ?_) (fun h3 => ?_)
          · replace hF := hF.1 h3
            refine lv_aload_n hx hb dX0_isOrBelow_24 rfl (lv_at hl 0 rfl) ?_
            refine va_get (D := D) (ci := 0) (v := .ref (α.1 11)) (C := RX0) (T := TX0) (N := 7) hx hb hts in_X0 hown hK hP 0 (sm_gX0 σ α) rfl 1 (by decide) k_0 (fun _ h9 => h9) rfl dX0_isOrBelow_25 ?_
            refine lv_iload_n hx hb dX0_isOrBelow_28 rfl (lv_at hl 2 rfl) ?_
            obtain ⟨h4, hF⟩ := hF
            refine va_iald (n := (σ.2.2.1 11)) (f := (σ.2.2.2.1 11)) hx hb hK hP 11 0 (sm_aX11 σ α) (sm_yX11 α) h4 dX0_isOrBelow_29 ?_
            refine lv_topi (fun v5 ev5 => ?_)
            replace hF := hF v5 ev5
            refine lv_istore_n (lv' := [(3, .int v5), (0, .ref (α.1 0)), (2, .int x2), (4, .int x4)]) hx hb dX0_isOrBelow_30 rfl hl (by decide) rfl (fun ls hl => ?_)
            obtain ⟨v6, ev6⟩ : ∃ y : Int32, y = x4 + 1 := ⟨_, rfl⟩
            replace hF := hF v6 ev6
            refine lv_iinc (v := v6) (lv' := [(4, .int v6), (3, .int v5), (0, .ref (α.1 0)), (2, .int x2)]) hx hb dX0_isOrBelow_31 hl (k := 3) rfl (by rw [ev6]; rfl) (by decide) rfl (fun ls hl => ?_)
            refine lv_goto (tgt := 5) hx hb dX0_isOrBelow_34 (by decide) ?_
            exact ih5 σ x2 v5 v6 hF H locs ls hP hS (lv_sub hl [2, 3, 1, 0] rfl)
          · replace hF := hF.2 h3
            refine lv_iconst (v := 1) hx hb dX0_isOrBelow_22 (by decide) ?_
            exact W.zret (v := 1) hx hb hr sm_z1.1 (fun t ht hW => ⟨⟨1, σ, rfl, hF, (by unfold sm_B; rw [ht]; exact hP)⟩, hS.F ht⟩) hS.2.2 dX0_isOrBelow_23
  unfold mp_X0_isOrBelow at hF
  revert hP hS
  generalize hLo : ([] : List Loc) = locs
  suffices h9 : ∀ (H : Heap) (locs : List Loc), va_P D vwCl (sm_wX σ α) H → va_S A s.heap H locs → W p l e (headSpec wp_X0_isOrBelow { frames := 0, cells := 0, slots := 0, locals := 0 }).room s m ([.ref (α.1 0), .int p1, .int p2] : List Value).toArray below meth c H locs 0 0 (MQ below (va_Qi K (sm_B sm_wX D α) A) ([.ref (α.1 0), .int p1, .int p2] : List Value).toArray s 0 0 A) (F0 m 0 ls []) from fun hP hS => h9 s.heap locs hP hS
  intro H locs hP hS
  refine lv_iload_n hx hb dX0_isOrBelow_0 rfl (lv_at hl 1 rfl) ?_
  refine lv_istore_n (lv' := [(3, .int p1), (0, .ref (α.1 0)), (1, .int p1), (2, .int p2)]) hx hb dX0_isOrBelow_1 rfl hl (by decide) rfl (fun ls hl => ?_)
  refine lv_iconst (v := 0) hx hb dX0_isOrBelow_2 (by decide) ?_
  refine lv_istore (lv' := [(4, .int 0), (3, .int p1), (0, .ref (α.1 0)), (1, .int p1), (2, .int p2)]) hx hb dX0_isOrBelow_3 hl (by decide) rfl (fun ls hl => ?_)
  obtain ⟨n5, hF⟩ := hF
  exact B5 n5 σ p2 p1 0 hF H locs ls hP hS (lv_sub hl [2, 4, 1, 0] rfl)
theorem dX0_lowestAbove_0 : decode cX0_lowestAbove 0 = .ok (.iload_n 1, 1) := by decide +kernel
theorem dX0_lowestAbove_1 : decode cX0_lowestAbove 1 = .ok (.istore_n 3, 1) := by decide +kernel
theorem dX0_lowestAbove_2 : decode cX0_lowestAbove 2 = .ok (.iload_n 2, 1) := by decide +kernel
theorem dX0_lowestAbove_3 : decode cX0_lowestAbove 3 = .ok (.istore 4, 2) := by decide +kernel
theorem dX0_lowestAbove_5 : decode cX0_lowestAbove 5 = .ok (.iconst 0, 1) := by decide +kernel
theorem dX0_lowestAbove_6 : decode cX0_lowestAbove 6 = .ok (.istore 5, 2) := by decide +kernel
theorem dX0_lowestAbove_8 : decode cX0_lowestAbove 8 = .ok (.iload 5, 2) := by decide +kernel
theorem dX0_lowestAbove_10 : decode cX0_lowestAbove 10 = .ok (.bipush 64, 2) := by decide +kernel
theorem dX0_lowestAbove_12 : decode cX0_lowestAbove 12 = .ok (.if_icmp .ge 40, 3) := by decide +kernel
theorem dX0_lowestAbove_15 : decode cX0_lowestAbove 15 = .ok (.iload_n 3, 1) := by decide +kernel
theorem dX0_lowestAbove_16 : decode cX0_lowestAbove 16 = .ok (.iload 4, 2) := by decide +kernel
theorem dX0_lowestAbove_18 : decode cX0_lowestAbove 18 = .ok (.if_icmp .eq 34, 3) := by decide +kernel
theorem dX0_lowestAbove_21 : decode cX0_lowestAbove 21 = .ok (.iload_n 3, 1) := by decide +kernel
theorem dX0_lowestAbove_22 : decode cX0_lowestAbove 22 = .ok (.iload 4, 2) := by decide +kernel
theorem dX0_lowestAbove_24 : decode cX0_lowestAbove 24 = .ok (.if_icmp .le 13, 3) := by decide +kernel
theorem dX0_lowestAbove_27 : decode cX0_lowestAbove 27 = .ok (.aload_n 0, 1) := by decide +kernel
theorem dX0_lowestAbove_28 : decode cX0_lowestAbove 28 = .ok (.getfield 9, 3) := by decide +kernel
theorem dX0_lowestAbove_31 : decode cX0_lowestAbove 31 = .ok (.iload_n 3, 1) := by decide +kernel
theorem dX0_lowestAbove_32 : decode cX0_lowestAbove 32 = .ok (.iaload, 1) := by decide +kernel
theorem dX0_lowestAbove_33 : decode cX0_lowestAbove 33 = .ok (.istore_n 3, 1) := by decide +kernel
theorem dX0_lowestAbove_34 : decode cX0_lowestAbove 34 = .ok (.goto 12, 3) := by decide +kernel
theorem dX0_lowestAbove_37 : decode cX0_lowestAbove 37 = .ok (.aload_n 0, 1) := by decide +kernel
theorem dX0_lowestAbove_38 : decode cX0_lowestAbove 38 = .ok (.getfield 9, 3) := by decide +kernel
theorem dX0_lowestAbove_41 : decode cX0_lowestAbove 41 = .ok (.iload 4, 2) := by decide +kernel
theorem dX0_lowestAbove_43 : decode cX0_lowestAbove 43 = .ok (.iaload, 1) := by decide +kernel
theorem dX0_lowestAbove_44 : decode cX0_lowestAbove 44 = .ok (.istore 4, 2) := by decide +kernel
theorem dX0_lowestAbove_46 : decode cX0_lowestAbove 46 = .ok (.iinc 5 1, 3) := by decide +kernel
theorem dX0_lowestAbove_49 : decode cX0_lowestAbove 49 = .ok (.goto (-41), 3) := by decide +kernel
theorem dX0_lowestAbove_52 : decode cX0_lowestAbove 52 = .ok (.iload_n 3, 1) := by decide +kernel
theorem dX0_lowestAbove_53 : decode cX0_lowestAbove 53 = .ok (.ireturn, 1) := by decide +kernel
def wp_X0_lowestAbove : List Cond := .code yX0_lowestAbove cX0_lowestAbove 6 (some .int) :: ([.fieldLink RX0 9 "SteadyMachine$Classes" "upper" "[I"] ++ wsX00)
theorem wq_X0_lowestAbove : wp_X0_lowestAbove.all goodWord = true := wa_c rfl (wa_a (by decide +kernel) uq_X0)
theorem wt_X0_lowestAbove : GoodIn lw_tbl wp_X0_lowestAbove := wm_c (List.mem_of_getElem? (i := 767) (by decide +kernel)) rfl (wm_a (goodIn_r _ [175] (by decide +kernel) (by decide +kernel)) ut_X0)
theorem wi_X0_lowestAbove_X0 : ∀ w ∈ wsX00, w ∈ wp_X0_lowestAbove := fun w h => List.mem_cons_of_mem _ (List.mem_append_right _ h)
set_option maxHeartbeats 4000000 in
set_option maxRecDepth 100000 in
theorem c_X0_lowestAbove (l : Launch) (D : va_G) (sz t0 : Nat) (σ : sm_S) (α : sm_A) (p1 : Int32) (p2 : Int32) (K : Int32 → sm_S → Prop) (hF : mp_X0_lowestAbove σ p1 p2 K) : Met l yX0_lowestAbove wp_X0_lowestAbove { frames := 0, cells := 0, slots := 0, locals := 0 } (sm_P sm_wX sm_tX 37 D sz t0 σ α [.ref (α.1 0), .int p1, .int p2]) (va_Qi K (sm_B sm_wX D α) (sm_a α 37 sz)) 0 0 (sm_a α 37 sz) := by
  refine Met.ofW (cc := cX0_lowestAbove) (maxL := 6) (ret := (some .int)) (by decide) rfl ?_
  intro p e s m args below meth c s₁ B hml hv
  obtain ⟨rfl, hsz, hP, hK, hD0, hE⟩ := hv
  have hx := B.exec
  have hb := B.bytes
  have hr := B.returns
  have hts := atoms_spec (ws := wp_X0_lowestAbove) B.pre
  have hown : s.vm.findClass RX0 = some m.cls := findClass_of_methodNamed B.named
  have hlocks := B.notSynchronized
  subst hsz
  have hD : sm_D (sm_a α 37 s.heap.size) α 37 := hD0.own
  have hA : ∀ q : Nat, s.heap.size ≤ q → sm_a α 37 s.heap.size q := fun q h => Or.inr h
  generalize hAe : sm_a α 37 s.heap.size = A at hD hA hE ⊢
  have hS : va_S A s.heap s.heap [] := va_S.rf
  have in_X0 : ∀ w ∈ wsX00, w ∈ wp_X0_lowestAbove := wi_X0_lowestAbove_X0
  have k_0 := hts (.fieldLink RX0 9 "SteadyMachine$Classes" "upper" "[I") (by decide +kernel)
  have hl := lv_entry ([.ref (α.1 0), .int p1, .int p2]) (n := 6) (Nat.le_of_ble_eq_true rfl)
  rw [lg_entry_eq]
  generalize (lg_sl ([.ref (α.1 0), .int p1, .int p2]) ++ List.replicate (6 - (lg_sl ([.ref (α.1 0), .int p1, .int p2])).length) Slot.unset).toArray = ls at hl ⊢
  have hl : lv_has ls 6 [(0, .ref (α.1 0)), (1, .int p1), (2, .int p2)] := hl
  have B52 : ∀ (σ : sm_S) (x3 : Int32), mp_X0_lowestAbove_52 K σ x3 → sm_J p l e (headSpec wp_X0_lowestAbove { frames := 0, cells := 0, slots := 0, locals := 0 }).room s m ([.ref (α.1 0), .int p1, .int p2] : List Value).toArray below meth c (MQ below (va_Qi K (sm_B sm_wX D α) A) ([.ref (α.1 0), .int p1, .int p2] : List Value).toArray s 0 0 A) D A 6 (sm_wX σ α) 52 [(3, .int x3)] [] := by
    intro σ x3 hF H locs ls hP hS hl
    unfold mp_X0_lowestAbove_52 at hF
    refine lv_iload_n hx hb dX0_lowestAbove_52 rfl (lv_at hl 0 rfl) ?_
    exact W.iret (v := x3) hx hb hr (fun t ht hW => ⟨⟨x3, σ, rfl, hF, (by unfold sm_B; rw [ht]; exact hP)⟩, hS.F ht⟩) hS.2.2 dX0_lowestAbove_53
  have B46 : ∀ (L8 : sm_S → Int32 → Int32 → Int32 → Prop) (hL8 : ∀ (σ : sm_S) (x3 : Int32) (x4 : Int32) (x5 : Int32), L8 σ x3 x4 x5 → sm_J p l e (headSpec wp_X0_lowestAbove { frames := 0, cells := 0, slots := 0, locals := 0 }).room s m ([.ref (α.1 0), .int p1, .int p2] : List Value).toArray below meth c (MQ below (va_Qi K (sm_B sm_wX D α) A) ([.ref (α.1 0), .int p1, .int p2] : List Value).toArray s 0 0 A) D A 6 (sm_wX σ α) 8 [(0, .ref (α.1 0)), (3, .int x3), (4, .int x4), (5, .int x5)] []) (σ : sm_S) (x3 : Int32) (x4 : Int32) (x5 : Int32), mp_X0_lowestAbove_46 L8 K σ x3 x4 x5 → sm_J p l e (headSpec wp_X0_lowestAbove { frames := 0, cells := 0, slots := 0, locals := 0 }).room s m ([.ref (α.1 0), .int p1, .int p2] : List Value).toArray below meth c (MQ below (va_Qi K (sm_B sm_wX D α) A) ([.ref (α.1 0), .int p1, .int p2] : List Value).toArray s 0 0 A) D A 6 (sm_wX σ α) 46 [(0, .ref (α.1 0)), (3, .int x3), (4, .int x4), (5, .int x5)] [] := by
    intro L8 hL8 σ x3 x4 x5 hF H locs ls hP hS hl
    unfold mp_X0_lowestAbove_46 at hF
    obtain ⟨v1, ev1⟩ : ∃ y : Int32, y = x5 + 1 := ⟨_, rfl⟩
    replace hF := hF v1 ev1
    refine lv_iinc (v := v1) (lv' := [(5, .int v1), (0, .ref (α.1 0)), (3, .int x3), (4, .int x4)]) hx hb dX0_lowestAbove_46 hl (k := 3) rfl (by rw [ev1]; rfl) (by decide) rfl (fun ls hl => ?_)
    refine lv_goto (tgt := 8) hx hb dX0_lowestAbove_49 (by decide) ?_
    exact hL8 σ x3 x4 v1 hF H locs ls hP hS (lv_sub hl [1, 2, 3, 0] rfl)
  have B8 : ∀ (n : Nat) (σ : sm_S) (x3 : Int32) (x4 : Int32) (x5 : Int32), mp_X0_lowestAbove_8 K n σ x3 x4 x5 → sm_J p l e (headSpec wp_X0_lowestAbove { frames := 0, cells := 0, slots := 0, locals := 0 }).room s m ([.ref (α.1 0), .int p1, .int p2] : List Value).toArray below meth c (MQ below (va_Qi K (sm_B sm_wX D α) A) ([.ref (α.1 0), .int p1, .int p2] : List Value).toArray s 0 0 A) D A 6 (sm_wX σ α) 8 [(0, .ref (α.1 0)), (3, .int x3), (4, .int x4), (5, .int x5)] [] := by
    intro n8
    induction n8 with
    | zero =>
      intro σ x3 x4 x5 hF
      exact hF.elim
    | succ n8 ih8 =>
      intro σ x3 x4 x5 hF H locs ls hP hS hl
      unfold mp_X0_lowestAbove_8 at hF
      refine lv_iload hx hb dX0_lowestAbove_8 (lv_at hl 3 rfl) ?_
      refine lv_bipush (v := 64) hx hb dX0_lowestAbove_10 (by decide) ?_
      refine lv_icmp_ge (tgt := 52) hx hb dX0_lowestAbove_12 (by decide) (fun h2 => ?_) (fun h2 => ?_)
      · replace hF := hF.1 h2
        exact B52 σ x3 hF H locs ls hP hS (lv_sub hl [1] rfl)
      · replace hF := hF.2 h2
        refine lv_iload_n hx hb dX0_lowestAbove_15 rfl (lv_at hl 1 rfl) ?_
        refine lv_iload hx hb dX0_lowestAbove_16 (lv_at hl 2 rfl) ?_
        refine lv_icmp_eq (tgt := 52) hx hb dX0_lowestAbove_18 (by decide) (fun h3 => ?_) (fun h3 => ?_)
        · replace hF := hF.1 h3
          exact B52 σ x3 hF H locs ls hP hS (lv_sub hl [1] rfl)
        · replace hF := hF.2 h3
          refine lv_iload_n hx hb dX0_lowestAbove_21 rfl (lv_at hl 1 rfl) ?_
          refine lv_iload hx hb dX0_lowestAbove_22 (lv_at hl 2 rfl) ?_
          refine lv_icmp_le (tgt := 37) hx hb dX0_lowestAbove_24 (by decide) (fun h4 => ?_) (fun h4 => ?_)
          · replace hF := hF.1 h4
            refine lv_aload_n hx hb dX0_lowestAbove_37 rfl (lv_at hl 0 rfl) ?_
            refine va_get (D := D) (ci := 0) (v := .ref (α.1 11)) (C := RX0) (T := TX0) (N := 7) hx hb hts in_X0 hown hK hP 0 (sm_gX0 σ α) rfl 1 (by decide) k_0 (fun _ h9 => h9) rfl dX0_lowestAbove_38 ?_
            refine lv_iload hx hb dX0_lowestAbove_41 (lv_at hl 2 rfl) ?_
            obtain ⟨h5, hF⟩ := hF
            refine va_iald (n := (σ.2.2.1 11)) (f := (σ.2.2.2.1 11)) hx hb hK hP 11 0 (sm_aX11 σ α) (sm_yX11 α) h5 dX0_lowestAbove_43 ?_
            refine lv_topi (fun v6 ev6 => ?_)
            replace hF := hF v6 ev6
            refine lv_istore (lv' := [(4, .int v6), (0, .ref (α.1 0)), (3, .int x3), (5, .int x5)]) hx hb dX0_lowestAbove_44 hl (by decide) rfl (fun ls hl => ?_)
            exact B46 (mp_X0_lowestAbove_8 K n8) ih8 σ x3 v6 x5 hF H locs ls hP hS (lv_sub hl [1, 2, 0, 3] rfl)
          · replace hF := hF.2 h4
            refine lv_aload_n hx hb dX0_lowestAbove_27 rfl (lv_at hl 0 rfl) ?_
            refine va_get (D := D) (ci := 0) (v := .ref (α.1 11)) (C := RX0) (T := TX0) (N := 7) hx hb hts in_X0 hown hK hP 0 (sm_gX0 σ α) rfl 1 (by decide) k_0 (fun _ h9 => h9) rfl dX0_lowestAbove_28 ?_
            refine lv_iload_n hx hb dX0_lowestAbove_31 rfl (lv_at hl 1 rfl) ?_
            obtain ⟨h7, hF⟩ := hF
            refine va_iald (n := (σ.2.2.1 11)) (f := (σ.2.2.2.1 11)) hx hb hK hP 11 0 (sm_aX11 σ α) (sm_yX11 α) h7 dX0_lowestAbove_32 ?_
            refine lv_topi (fun v8 ev8 => ?_)
            replace hF := hF v8 ev8
            refine lv_istore_n (lv' := [(3, .int v8), (0, .ref (α.1 0)), (4, .int x4), (5, .int x5)]) hx hb dX0_lowestAbove_33 rfl hl (by decide) rfl (fun ls hl => ?_)
            refine lv_goto (tgt := 46) hx hb dX0_lowestAbove_34 (by decide) ?_
            exact B46 (mp_X0_lowestAbove_8 K n8) ih8 σ v8 x4 x5 hF H locs ls hP hS (lv_sub hl [1, 0, 2, 3] rfl)
  unfold mp_X0_lowestAbove at hF
  revert hP hS
  generalize hLo : ([] : List Loc) = locs
  suffices h9 : ∀ (H : Heap) (locs : List Loc), va_P D vwCl (sm_wX σ α) H → va_S A s.heap H locs → W p l e (headSpec wp_X0_lowestAbove { frames := 0, cells := 0, slots := 0, locals := 0 }).room s m ([.ref (α.1 0), .int p1, .int p2] : List Value).toArray below meth c H locs 0 0 (MQ below (va_Qi K (sm_B sm_wX D α) A) ([.ref (α.1 0), .int p1, .int p2] : List Value).toArray s 0 0 A) (F0 m 0 ls []) from fun hP hS => h9 s.heap locs hP hS
  intro H locs hP hS
  refine lv_iload_n hx hb dX0_lowestAbove_0 rfl (lv_at hl 1 rfl) ?_
  refine lv_istore_n (lv' := [(3, .int p1), (0, .ref (α.1 0)), (1, .int p1), (2, .int p2)]) hx hb dX0_lowestAbove_1 rfl hl (by decide) rfl (fun ls hl => ?_)
  refine lv_iload_n hx hb dX0_lowestAbove_2 rfl (lv_at hl 3 rfl) ?_
  refine lv_istore (lv' := [(4, .int p2), (3, .int p1), (0, .ref (α.1 0)), (1, .int p1), (2, .int p2)]) hx hb dX0_lowestAbove_3 hl (by decide) rfl (fun ls hl => ?_)
  refine lv_iconst (v := 0) hx hb dX0_lowestAbove_5 (by decide) ?_
  refine lv_istore (lv' := [(5, .int 0), (4, .int p2), (3, .int p1), (0, .ref (α.1 0)), (1, .int p1), (2, .int p2)]) hx hb dX0_lowestAbove_6 hl (by decide) rfl (fun ls hl => ?_)
  obtain ⟨n8, hF⟩ := hF
  exact B8 n8 σ p1 p2 0 hF H locs ls hP hS (lv_sub hl [3, 2, 1, 0] rfl)
theorem dX1_rowLength_0 : decode cX1_rowLength 0 = .ok (.lload_n 0, 1) := by decide +kernel
theorem dX1_rowLength_1 : decode cX1_rowLength 1 = .ok (.l2i, 1) := by decide +kernel
theorem dX1_rowLength_2 : decode cX1_rowLength 2 = .ok (.sipush 4095, 3) := by decide +kernel
theorem dX1_rowLength_5 : decode cX1_rowLength 5 = .ok (.iand, 1) := by decide +kernel
theorem dX1_rowLength_6 : decode cX1_rowLength 6 = .ok (.ireturn, 1) := by decide +kernel
def wp_X1_rowLength : List Cond := .code yX1_rowLength cX1_rowLength 2 (some .int) :: []
theorem wq_X1_rowLength : wp_X1_rowLength.all goodWord = true := wa_c rfl (by decide +kernel)
theorem wt_X1_rowLength : GoodIn lw_tbl wp_X1_rowLength := wm_c (List.mem_of_getElem? (i := 1048) (by decide +kernel)) rfl (goodIn_r _ [] (by decide +kernel) (by decide +kernel))
set_option maxHeartbeats 4000000 in
set_option maxRecDepth 100000 in
theorem c_X1_rowLength (l : Launch) (D : va_G) (sz t0 : Nat) (σ : sm_S) (α : sm_A) (p1 : Int64) (K : Int32 → sm_S → Prop) (hF : mp_X1_rowLength σ p1 K) : Met l yX1_rowLength wp_X1_rowLength { frames := 0, cells := 0, slots := 0, locals := 0 } (sm_P sm_wX sm_tX 37 D sz t0 σ α [.long p1]) (va_Qi K (sm_B sm_wX D α) (sm_a α 37 sz)) 0 0 (sm_a α 37 sz) := by
  refine Met.ofW (cc := cX1_rowLength) (maxL := 2) (ret := (some .int)) (by decide) rfl ?_
  intro p e s m args below meth c s₁ B hml hv
  obtain ⟨rfl, hsz, hP, hK, hD0, hE⟩ := hv
  have hx := B.exec
  have hb := B.bytes
  have hr := B.returns
  have hts := atoms_spec (ws := wp_X1_rowLength) B.pre
  have hown : s.vm.findClass RX1 = some m.cls := findClass_of_methodNamed B.named
  have hlocks := B.notSynchronized
  subst hsz
  have hD : sm_D (sm_a α 37 s.heap.size) α 37 := hD0.own
  have hA : ∀ q : Nat, s.heap.size ≤ q → sm_a α 37 s.heap.size q := fun q h => Or.inr h
  generalize hAe : sm_a α 37 s.heap.size = A at hD hA hE ⊢
  have hS : va_S A s.heap s.heap [] := va_S.rf
  have hl := lv_entry ([.long p1]) (n := 2) (Nat.le_of_ble_eq_true rfl)
  rw [lg_entry_eq]
  generalize (lg_sl ([.long p1]) ++ List.replicate (2 - (lg_sl ([.long p1])).length) Slot.unset).toArray = ls at hl ⊢
  have hl : lv_has ls 2 [(0, .long p1)] := hl
  unfold mp_X1_rowLength at hF
  revert hP hS
  generalize hLo : ([] : List Loc) = locs
  suffices h9 : ∀ (H : Heap) (locs : List Loc), va_P D vwCl (sm_wX σ α) H → va_S A s.heap H locs → W p l e (headSpec wp_X1_rowLength { frames := 0, cells := 0, slots := 0, locals := 0 }).room s m ([.long p1] : List Value).toArray below meth c H locs 0 0 (MQ below (va_Qi K (sm_B sm_wX D α) A) ([.long p1] : List Value).toArray s 0 0 A) (F0 m 0 ls []) from fun hP hS => h9 s.heap locs hP hS
  intro H locs hP hS
  refine lv_lload_n hx hb dX1_rowLength_0 rfl (lv_at hl 0 rfl) ?_
  refine lv_l2i hx hb dX1_rowLength_1 rfl ?_
  refine lv_sipush (v := 4095) hx hb dX1_rowLength_2 (by decide) ?_
  refine lv_iand hx hb dX1_rowLength_5 ?_
  exact W.iret (v := (p1.toInt32 &&& 4095)) hx hb hr (fun t ht hW => ⟨⟨(p1.toInt32 &&& 4095), σ, rfl, hF, (by unfold sm_B; rw [ht]; exact hP)⟩, hS.F ht⟩) hS.2.2 dX1_rowLength_6
theorem dX1_rowItem_0 : decode cX1_rowItem 0 = .ok (.lload_n 0, 1) := by decide +kernel
theorem dX1_rowItem_1 : decode cX1_rowItem 1 = .ok (.l2i, 1) := by decide +kernel
theorem dX1_rowItem_2 : decode cX1_rowItem 2 = .ok (.bipush 12, 2) := by decide +kernel
theorem dX1_rowItem_4 : decode cX1_rowItem 4 = .ok (.ishr, 1) := by decide +kernel
theorem dX1_rowItem_5 : decode cX1_rowItem 5 = .ok (.ireturn, 1) := by decide +kernel
def wp_X1_rowItem : List Cond := .code yX1_rowItem cX1_rowItem 2 (some .int) :: []
theorem wq_X1_rowItem : wp_X1_rowItem.all goodWord = true := wa_c rfl (by decide +kernel)
theorem wt_X1_rowItem : GoodIn lw_tbl wp_X1_rowItem := wm_c (List.mem_of_getElem? (i := 1059) (by decide +kernel)) rfl (goodIn_r _ [] (by decide +kernel) (by decide +kernel))
set_option maxHeartbeats 4000000 in
set_option maxRecDepth 100000 in
theorem c_X1_rowItem (l : Launch) (D : va_G) (sz t0 : Nat) (σ : sm_S) (α : sm_A) (p1 : Int64) (K : Int32 → sm_S → Prop) (hF : mp_X1_rowItem σ p1 K) : Met l yX1_rowItem wp_X1_rowItem { frames := 0, cells := 0, slots := 0, locals := 0 } (sm_P sm_wX sm_tX 37 D sz t0 σ α [.long p1]) (va_Qi K (sm_B sm_wX D α) (sm_a α 37 sz)) 0 0 (sm_a α 37 sz) := by
  refine Met.ofW (cc := cX1_rowItem) (maxL := 2) (ret := (some .int)) (by decide) rfl ?_
  intro p e s m args below meth c s₁ B hml hv
  obtain ⟨rfl, hsz, hP, hK, hD0, hE⟩ := hv
  have hx := B.exec
  have hb := B.bytes
  have hr := B.returns
  have hts := atoms_spec (ws := wp_X1_rowItem) B.pre
  have hown : s.vm.findClass RX1 = some m.cls := findClass_of_methodNamed B.named
  have hlocks := B.notSynchronized
  subst hsz
  have hD : sm_D (sm_a α 37 s.heap.size) α 37 := hD0.own
  have hA : ∀ q : Nat, s.heap.size ≤ q → sm_a α 37 s.heap.size q := fun q h => Or.inr h
  generalize hAe : sm_a α 37 s.heap.size = A at hD hA hE ⊢
  have hS : va_S A s.heap s.heap [] := va_S.rf
  have hl := lv_entry ([.long p1]) (n := 2) (Nat.le_of_ble_eq_true rfl)
  rw [lg_entry_eq]
  generalize (lg_sl ([.long p1]) ++ List.replicate (2 - (lg_sl ([.long p1])).length) Slot.unset).toArray = ls at hl ⊢
  have hl : lv_has ls 2 [(0, .long p1)] := hl
  unfold mp_X1_rowItem at hF
  revert hP hS
  generalize hLo : ([] : List Loc) = locs
  suffices h9 : ∀ (H : Heap) (locs : List Loc), va_P D vwCl (sm_wX σ α) H → va_S A s.heap H locs → W p l e (headSpec wp_X1_rowItem { frames := 0, cells := 0, slots := 0, locals := 0 }).room s m ([.long p1] : List Value).toArray below meth c H locs 0 0 (MQ below (va_Qi K (sm_B sm_wX D α) A) ([.long p1] : List Value).toArray s 0 0 A) (F0 m 0 ls []) from fun hP hS => h9 s.heap locs hP hS
  intro H locs hP hS
  refine lv_lload_n hx hb dX1_rowItem_0 rfl (lv_at hl 0 rfl) ?_
  refine lv_l2i hx hb dX1_rowItem_1 rfl ?_
  refine lv_bipush (v := 12) hx hb dX1_rowItem_2 (by decide) ?_
  refine lv_ishr hx hb dX1_rowItem_4 ?_
  exact W.iret (v := (p1.toInt32 >>> (12 &&& 31))) hx hb hr (fun t ht hW => ⟨⟨(p1.toInt32 >>> (12 &&& 31)), σ, rfl, hF, (by unfold sm_B; rw [ht]; exact hP)⟩, hS.F ht⟩) hS.2.2 dX1_rowItem_5
theorem dX1_span_0 : decode cX1_span 0 = .ok (.iload_n 0, 1) := by decide +kernel
theorem dX1_span_1 : decode cX1_span 1 = .ok (.bipush 15, 2) := by decide +kernel
theorem dX1_span_3 : decode cX1_span 3 = .ok (.if_icmp .gt 7, 3) := by decide +kernel
theorem dX1_span_6 : decode cX1_span 6 = .ok (.iconst 1, 1) := by decide +kernel
theorem dX1_span_7 : decode cX1_span 7 = .ok (.goto 18, 3) := by decide +kernel
theorem dX1_span_10 : decode cX1_span 10 = .ok (.iload_n 0, 1) := by decide +kernel
theorem dX1_span_11 : decode cX1_span 11 = .ok (.sipush 225, 3) := by decide +kernel
theorem dX1_span_14 : decode cX1_span 14 = .ok (.if_icmp .gt 8, 3) := by decide +kernel
theorem dX1_span_17 : decode cX1_span 17 = .ok (.bipush 15, 2) := by decide +kernel
theorem dX1_span_19 : decode cX1_span 19 = .ok (.goto 6, 3) := by decide +kernel
theorem dX1_span_22 : decode cX1_span 22 = .ok (.sipush 225, 3) := by decide +kernel
theorem dX1_span_25 : decode cX1_span 25 = .ok (.ireturn, 1) := by decide +kernel
def wp_X1_span : List Cond := .code yX1_span cX1_span 1 (some .int) :: []
theorem wq_X1_span : wp_X1_span.all goodWord = true := wa_c rfl (by decide +kernel)
theorem wt_X1_span : GoodIn lw_tbl wp_X1_span := wm_c (List.mem_of_getElem? (i := 1041) (by decide +kernel)) rfl (goodIn_r _ [] (by decide +kernel) (by decide +kernel))
set_option maxHeartbeats 4000000 in
set_option maxRecDepth 100000 in
theorem c_X1_span (l : Launch) (D : va_G) (sz t0 : Nat) (σ : sm_S) (α : sm_A) (p1 : Int32) (K : Int32 → sm_S → Prop) (hF : mp_X1_span σ p1 K) : Met l yX1_span wp_X1_span { frames := 0, cells := 0, slots := 0, locals := 0 } (sm_P sm_wX sm_tX 37 D sz t0 σ α [.int p1]) (va_Qi K (sm_B sm_wX D α) (sm_a α 37 sz)) 0 0 (sm_a α 37 sz) := by
  refine Met.ofW (cc := cX1_span) (maxL := 1) (ret := (some .int)) (by decide) rfl ?_
  intro p e s m args below meth c s₁ B hml hv
  obtain ⟨rfl, hsz, hP, hK, hD0, hE⟩ := hv
  have hx := B.exec
  have hb := B.bytes
  have hr := B.returns
  have hts := atoms_spec (ws := wp_X1_span) B.pre
  have hown : s.vm.findClass RX1 = some m.cls := findClass_of_methodNamed B.named
  have hlocks := B.notSynchronized
  subst hsz
  have hD : sm_D (sm_a α 37 s.heap.size) α 37 := hD0.own
  have hA : ∀ q : Nat, s.heap.size ≤ q → sm_a α 37 s.heap.size q := fun q h => Or.inr h
  generalize hAe : sm_a α 37 s.heap.size = A at hD hA hE ⊢
  have hS : va_S A s.heap s.heap [] := va_S.rf
  have hl := lv_entry ([.int p1]) (n := 1) (Nat.le_of_ble_eq_true rfl)
  rw [lg_entry_eq]
  generalize (lg_sl ([.int p1]) ++ List.replicate (1 - (lg_sl ([.int p1])).length) Slot.unset).toArray = ls at hl ⊢
  have hl : lv_has ls 1 [(0, .int p1)] := hl
  have B25 : ∀ (σ : sm_S) (y0 : Int32), mp_X1_span_25 K σ y0 → sm_J p l e (headSpec wp_X1_span { frames := 0, cells := 0, slots := 0, locals := 0 }).room s m ([.int p1] : List Value).toArray below meth c (MQ below (va_Qi K (sm_B sm_wX D α) A) ([.int p1] : List Value).toArray s 0 0 A) D A 1 (sm_wX σ α) 25 [] [.int y0] := by
    intro σ y0 hF H locs ls hP hS hl
    unfold mp_X1_span_25 at hF
    exact W.iret (v := y0) hx hb hr (fun t ht hW => ⟨⟨y0, σ, rfl, hF, (by unfold sm_B; rw [ht]; exact hP)⟩, hS.F ht⟩) hS.2.2 dX1_span_25
  unfold mp_X1_span at hF
  revert hP hS
  generalize hLo : ([] : List Loc) = locs
  suffices h9 : ∀ (H : Heap) (locs : List Loc), va_P D vwCl (sm_wX σ α) H → va_S A s.heap H locs → W p l e (headSpec wp_X1_span { frames := 0, cells := 0, slots := 0, locals := 0 }).room s m ([.int p1] : List Value).toArray below meth c H locs 0 0 (MQ below (va_Qi K (sm_B sm_wX D α) A) ([.int p1] : List Value).toArray s 0 0 A) (F0 m 0 ls []) from fun hP hS => h9 s.heap locs hP hS
  intro H locs hP hS
  refine lv_iload_n hx hb dX1_span_0 rfl (lv_at hl 0 rfl) ?_
  refine lv_bipush (v := 15) hx hb dX1_span_1 (by decide) ?_
  refine lv_icmp_gt (tgt := 10) hx hb dX1_span_3 (by decide) (fun h1 => ?_) (fun h1 => ?_)
  · replace hF := hF.1 h1
    refine lv_iload_n hx hb dX1_span_10 rfl (lv_at hl 0 rfl) ?_
    refine lv_sipush (v := 225) hx hb dX1_span_11 (by decide) ?_
    refine lv_icmp_gt (tgt := 22) hx hb dX1_span_14 (by decide) (fun h2 => ?_) (fun h2 => ?_)
    · replace hF := hF.1 h2
      refine lv_sipush (v := 225) hx hb dX1_span_22 (by decide) ?_
      exact B25 σ 225 hF H locs ls hP hS (lv_sub hl [] rfl)
    · replace hF := hF.2 h2
      refine lv_bipush (v := 15) hx hb dX1_span_17 (by decide) ?_
      refine lv_goto (tgt := 25) hx hb dX1_span_19 (by decide) ?_
      exact B25 σ 15 hF H locs ls hP hS (lv_sub hl [] rfl)
  · replace hF := hF.2 h1
    refine lv_iconst (v := 1) hx hb dX1_span_6 (by decide) ?_
    refine lv_goto (tgt := 25) hx hb dX1_span_7 (by decide) ?_
    exact B25 σ 1 hF H locs ls hP hS (lv_sub hl [] rfl)
theorem dX1_cell_0 : decode cX1_cell 0 = .ok (.iload_n 0, 1) := by decide +kernel
theorem dX1_cell_1 : decode cX1_cell 1 = .ok (.i2l, 1) := by decide +kernel
theorem dX1_cell_2 : decode cX1_cell 2 = .ok (.bipush 32, 2) := by decide +kernel
theorem dX1_cell_4 : decode cX1_cell 4 = .ok (.lshl, 1) := by decide +kernel
theorem dX1_cell_5 : decode cX1_cell 5 = .ok (.iload_n 1, 1) := by decide +kernel
theorem dX1_cell_6 : decode cX1_cell 6 = .ok (.i2l, 1) := by decide +kernel
theorem dX1_cell_7 : decode cX1_cell 7 = .ok (.ldc2_w 21, 3) := by decide +kernel
theorem dX1_cell_10 : decode cX1_cell 10 = .ok (.land, 1) := by decide +kernel
theorem dX1_cell_11 : decode cX1_cell 11 = .ok (.lor, 1) := by decide +kernel
theorem dX1_cell_12 : decode cX1_cell 12 = .ok (.lreturn, 1) := by decide +kernel
def wp_X1_cell : List Cond := .code yX1_cell cX1_cell 2 (some .long) :: [.constantLong RX1 21 (4294967295)]
theorem wq_X1_cell : wp_X1_cell.all goodWord = true := wa_c rfl (by decide +kernel)
theorem wt_X1_cell : GoodIn lw_tbl wp_X1_cell := wm_c (List.mem_of_getElem? (i := 920) (by decide +kernel)) rfl (goodIn_r _ [921] (by decide +kernel) (by decide +kernel))
set_option maxHeartbeats 4000000 in
set_option maxRecDepth 100000 in
theorem c_X1_cell (l : Launch) (D : va_G) (sz t0 : Nat) (σ : sm_S) (α : sm_A) (p1 : Int32) (p2 : Int32) (K : Int64 → sm_S → Prop) (hF : mp_X1_cell σ p1 p2 K) : Met l yX1_cell wp_X1_cell { frames := 0, cells := 0, slots := 0, locals := 0 } (sm_P sm_wX sm_tX 37 D sz t0 σ α [.int p1, .int p2]) (va_Ql K (sm_B sm_wX D α) (sm_a α 37 sz)) 0 0 (sm_a α 37 sz) := by
  refine Met.ofW (cc := cX1_cell) (maxL := 2) (ret := (some .long)) (by decide) rfl ?_
  intro p e s m args below meth c s₁ B hml hv
  obtain ⟨rfl, hsz, hP, hK, hD0, hE⟩ := hv
  have hx := B.exec
  have hb := B.bytes
  have hr := B.returns
  have hts := atoms_spec (ws := wp_X1_cell) B.pre
  have hown : s.vm.findClass RX1 = some m.cls := findClass_of_methodNamed B.named
  have hlocks := B.notSynchronized
  subst hsz
  have hD : sm_D (sm_a α 37 s.heap.size) α 37 := hD0.own
  have hA : ∀ q : Nat, s.heap.size ≤ q → sm_a α 37 s.heap.size q := fun q h => Or.inr h
  generalize hAe : sm_a α 37 s.heap.size = A at hD hA hE ⊢
  have hS : va_S A s.heap s.heap [] := va_S.rf
  have k_0 := hts (.constantLong RX1 21 (4294967295)) (by decide +kernel)
  have hl := lv_entry ([.int p1, .int p2]) (n := 2) (Nat.le_of_ble_eq_true rfl)
  rw [lg_entry_eq]
  generalize (lg_sl ([.int p1, .int p2]) ++ List.replicate (2 - (lg_sl ([.int p1, .int p2])).length) Slot.unset).toArray = ls at hl ⊢
  have hl : lv_has ls 2 [(0, .int p1), (1, .int p2)] := hl
  unfold mp_X1_cell at hF
  revert hP hS
  generalize hLo : ([] : List Loc) = locs
  suffices h9 : ∀ (H : Heap) (locs : List Loc), va_P D vwCl (sm_wX σ α) H → va_S A s.heap H locs → W p l e (headSpec wp_X1_cell { frames := 0, cells := 0, slots := 0, locals := 0 }).room s m ([.int p1, .int p2] : List Value).toArray below meth c H locs 0 0 (MQ below (va_Ql K (sm_B sm_wX D α) A) ([.int p1, .int p2] : List Value).toArray s 0 0 A) (F0 m 0 ls []) from fun hP hS => h9 s.heap locs hP hS
  intro H locs hP hS
  refine lv_iload_n hx hb dX1_cell_0 rfl (lv_at hl 0 rfl) ?_
  refine lv_i2l hx hb dX1_cell_1 rfl ?_
  refine lv_bipush (v := 32) hx hb dX1_cell_2 (by decide) ?_
  refine lv_lshl hx hb dX1_cell_4 rfl ?_
  refine lv_iload_n hx hb dX1_cell_5 rfl (lv_at hl 1 rfl) ?_
  refine lv_i2l hx hb dX1_cell_6 rfl ?_
  refine lv_ldc2 (v := 4294967295) hx hb hown k_0 dX1_cell_7 ?_
  refine lv_land hx hb dX1_cell_10 ?_
  refine lv_lor hx hb dX1_cell_11 ?_
  exact W.lret (v := ((p1.toInt64 <<< ((32 : Int32).toInt64 &&& 63)) ||| (p2.toInt64 &&& 4294967295))) hx hb hr (fun t ht hW => ⟨⟨((p1.toInt64 <<< ((32 : Int32).toInt64 &&& 63)) ||| (p2.toInt64 &&& 4294967295)), σ, rfl, hF, (by unfold sm_B; rw [ht]; exact hP)⟩, hS.F ht⟩) hS.2.2 dX1_cell_12
theorem dX1_kind_0 : decode cX1_kind 0 = .ok (.lload_n 0, 1) := by decide +kernel
theorem dX1_kind_1 : decode cX1_kind 1 = .ok (.bipush 32, 2) := by decide +kernel
theorem dX1_kind_3 : decode cX1_kind 3 = .ok (.lshr, 1) := by decide +kernel
theorem dX1_kind_4 : decode cX1_kind 4 = .ok (.l2i, 1) := by decide +kernel
theorem dX1_kind_5 : decode cX1_kind 5 = .ok (.ireturn, 1) := by decide +kernel
def wp_X1_kind : List Cond := .code yX1_kind cX1_kind 2 (some .int) :: []
theorem wq_X1_kind : wp_X1_kind.all goodWord = true := wa_c rfl (by decide +kernel)
theorem wt_X1_kind : GoodIn lw_tbl wp_X1_kind := wm_c (List.mem_of_getElem? (i := 1030) (by decide +kernel)) rfl (goodIn_r _ [] (by decide +kernel) (by decide +kernel))
set_option maxHeartbeats 4000000 in
set_option maxRecDepth 100000 in
theorem c_X1_kind (l : Launch) (D : va_G) (sz t0 : Nat) (σ : sm_S) (α : sm_A) (p1 : Int64) (K : Int32 → sm_S → Prop) (hF : mp_X1_kind σ p1 K) : Met l yX1_kind wp_X1_kind { frames := 0, cells := 0, slots := 0, locals := 0 } (sm_P sm_wX sm_tX 37 D sz t0 σ α [.long p1]) (va_Qi K (sm_B sm_wX D α) (sm_a α 37 sz)) 0 0 (sm_a α 37 sz) := by
  refine Met.ofW (cc := cX1_kind) (maxL := 2) (ret := (some .int)) (by decide) rfl ?_
  intro p e s m args below meth c s₁ B hml hv
  obtain ⟨rfl, hsz, hP, hK, hD0, hE⟩ := hv
  have hx := B.exec
  have hb := B.bytes
  have hr := B.returns
  have hts := atoms_spec (ws := wp_X1_kind) B.pre
  have hown : s.vm.findClass RX1 = some m.cls := findClass_of_methodNamed B.named
  have hlocks := B.notSynchronized
  subst hsz
  have hD : sm_D (sm_a α 37 s.heap.size) α 37 := hD0.own
  have hA : ∀ q : Nat, s.heap.size ≤ q → sm_a α 37 s.heap.size q := fun q h => Or.inr h
  generalize hAe : sm_a α 37 s.heap.size = A at hD hA hE ⊢
  have hS : va_S A s.heap s.heap [] := va_S.rf
  have hl := lv_entry ([.long p1]) (n := 2) (Nat.le_of_ble_eq_true rfl)
  rw [lg_entry_eq]
  generalize (lg_sl ([.long p1]) ++ List.replicate (2 - (lg_sl ([.long p1])).length) Slot.unset).toArray = ls at hl ⊢
  have hl : lv_has ls 2 [(0, .long p1)] := hl
  unfold mp_X1_kind at hF
  revert hP hS
  generalize hLo : ([] : List Loc) = locs
  suffices h9 : ∀ (H : Heap) (locs : List Loc), va_P D vwCl (sm_wX σ α) H → va_S A s.heap H locs → W p l e (headSpec wp_X1_kind { frames := 0, cells := 0, slots := 0, locals := 0 }).room s m ([.long p1] : List Value).toArray below meth c H locs 0 0 (MQ below (va_Qi K (sm_B sm_wX D α) A) ([.long p1] : List Value).toArray s 0 0 A) (F0 m 0 ls []) from fun hP hS => h9 s.heap locs hP hS
  intro H locs hP hS
  refine lv_lload_n hx hb dX1_kind_0 rfl (lv_at hl 0 rfl) ?_
  refine lv_bipush (v := 32) hx hb dX1_kind_1 (by decide) ?_
  refine lv_lshr hx hb dX1_kind_3 rfl ?_
  refine lv_l2i hx hb dX1_kind_4 rfl ?_
  exact W.iret (v := (p1 >>> ((32 : Int32).toInt64 &&& 63)).toInt32) hx hb hr (fun t ht hW => ⟨⟨(p1 >>> ((32 : Int32).toInt64 &&& 63)).toInt32, σ, rfl, hF, (by unfold sm_B; rw [ht]; exact hP)⟩, hS.F ht⟩) hS.2.2 dX1_kind_5
theorem dX10_roomFor_0 : decode cX10_roomFor 0 = .ok (.iload_n 0, 1) := by decide +kernel
theorem dX10_roomFor_1 : decode cX10_roomFor 1 = .ok (.iconst 2, 1) := by decide +kernel
theorem dX10_roomFor_2 : decode cX10_roomFor 2 = .ok (.iload_n 1, 1) := by decide +kernel
theorem dX10_roomFor_3 : decode cX10_roomFor 3 = .ok (.imul, 1) := by decide +kernel
theorem dX10_roomFor_4 : decode cX10_roomFor 4 = .ok (.invokestatic 138, 3) := by decide +kernel
theorem dX10_roomFor_7 : decode cX10_roomFor 7 = .ok (.ireturn, 1) := by decide +kernel
def wp_X10_roomFor : List Cond := .code yX10_roomFor cX10_roomFor 2 (some .int) :: [.methodLink RX10 138 Lib.Math.max.name, .static Lib.Math.max.name, .initialized "java/lang/Math", .code Lib.Math.max.name Lib.Math.max.code 2 (some .int)]
theorem wq_X10_roomFor : wp_X10_roomFor.all goodWord = true := wa_c rfl (by decide +kernel)
theorem wt_X10_roomFor : GoodIn lw_tbl wp_X10_roomFor := wm_c (List.mem_of_getElem? (i := 611) (by decide +kernel)) rfl (goodIn_r _ [612, 613, 149, 614] (by decide +kernel) (by decide +kernel))
set_option maxHeartbeats 4000000 in
set_option maxRecDepth 100000 in
theorem c_X10_roomFor (l : Launch) (D : va_G) (sz t0 : Nat) (σ : sm_S) (α : sm_A) (p1 : Int32) (p2 : Int32) (K : Int32 → sm_S → Prop) (hF : mp_X10_roomFor σ p1 p2 K) : Met l yX10_roomFor wp_X10_roomFor { frames := 1, cells := 0, slots := 0, locals := 26 } (sm_P sm_wX sm_tX 37 D sz t0 σ α [.int p1, .int p2]) (va_Qi K (sm_B sm_wX D α) (sm_a α 37 sz)) 0 0 (sm_a α 37 sz) := by
  refine Met.ofW (cc := cX10_roomFor) (maxL := 2) (ret := (some .int)) (by decide) rfl ?_
  intro p e s m args below meth c s₁ B hml hv
  obtain ⟨rfl, hsz, hP, hK, hD0, hE⟩ := hv
  have hx := B.exec
  have hb := B.bytes
  have hr := B.returns
  have hts := atoms_spec (ws := wp_X10_roomFor) B.pre
  have hown : s.vm.findClass RX10 = some m.cls := findClass_of_methodNamed B.named
  have hlocks := B.notSynchronized
  subst hsz
  have hD : sm_D (sm_a α 37 s.heap.size) α 37 := hD0.own
  have hA : ∀ q : Nat, s.heap.size ≤ q → sm_a α 37 s.heap.size q := fun q h => Or.inr h
  generalize hAe : sm_a α 37 s.heap.size = A at hD hA hE ⊢
  have hS : va_S A s.heap s.heap [] := va_S.rf
  have k_0 := hts (.methodLink RX10 138 Lib.Math.max.name) (by decide +kernel)
  have k_1 := hts (.static Lib.Math.max.name) (by decide +kernel)
  have k_2 := hts (.initialized "java/lang/Math") (by decide +kernel)
  have k_3 := hts (.code Lib.Math.max.name Lib.Math.max.code 2 (some .int)) (by decide +kernel)
  have hl := lv_entry ([.int p1, .int p2]) (n := 2) (Nat.le_of_ble_eq_true rfl)
  rw [lg_entry_eq]
  generalize (lg_sl ([.int p1, .int p2]) ++ List.replicate (2 - (lg_sl ([.int p1, .int p2])).length) Slot.unset).toArray = ls at hl ⊢
  have hl : lv_has ls 2 [(0, .int p1), (1, .int p2)] := hl
  unfold mp_X10_roomFor at hF
  revert hP hS
  generalize hLo : ([] : List Loc) = locs
  suffices h9 : ∀ (H : Heap) (locs : List Loc), va_P D vwCl (sm_wX σ α) H → va_S A s.heap H locs → W p l e (headSpec wp_X10_roomFor { frames := 1, cells := 0, slots := 0, locals := 26 }).room s m ([.int p1, .int p2] : List Value).toArray below meth c H locs 0 0 (MQ below (va_Qi K (sm_B sm_wX D α) A) ([.int p1, .int p2] : List Value).toArray s 0 0 A) (F0 m 0 ls []) from fun hP hS => h9 s.heap locs hP hS
  intro H locs hP hS
  refine lv_iload_n hx hb dX10_roomFor_0 rfl (lv_at hl 0 rfl) ?_
  refine lv_iconst (v := 2) hx hb dX10_roomFor_1 (by decide) ?_
  refine lv_iload_n hx hb dX10_roomFor_2 rfl (lv_at hl 1 rfl) ?_
  refine lv_imul hx hb dX10_roomFor_3 ?_
  refine va_mmax (x := p1) (y := (2 * p2)) hx hb (hml.trans hl.1.symm) hown k_0 k_1 k_2 k_3 (Nat.le_of_ble_eq_true rfl) (Nat.le_of_ble_eq_true rfl) (Nat.zero_le _) (Nat.zero_le _) dX10_roomFor_4 ?_
  exact W.iret (v := (if p1 < (2 * p2) then (2 * p2) else p1)) hx hb hr (fun t ht hW => ⟨⟨(if p1 < (2 * p2) then (2 * p2) else p1), σ, rfl, hF, (by unfold sm_B; rw [ht]; exact hP)⟩, hS.F ht⟩) hS.2.2 dX10_roomFor_7
theorem dX1_useHalf_0 : decode cX1_useHalf 0 = .ok (.aload_n 0, 1) := by decide +kernel
theorem dX1_useHalf_1 : decode cX1_useHalf 1 = .ok (.iload_n 1, 1) := by decide +kernel
theorem dX1_useHalf_2 : decode cX1_useHalf 2 = .ok (.putfield 56, 3) := by decide +kernel
theorem dX1_useHalf_5 : decode cX1_useHalf 5 = .ok (.aload_n 0, 1) := by decide +kernel
theorem dX1_useHalf_6 : decode cX1_useHalf 6 = .ok (.iload_n 1, 1) := by decide +kernel
theorem dX1_useHalf_7 : decode cX1_useHalf 7 = .ok (.putfield 59, 3) := by decide +kernel
theorem dX1_useHalf_10 : decode cX1_useHalf 10 = .ok (.aload_n 0, 1) := by decide +kernel
theorem dX1_useHalf_11 : decode cX1_useHalf 11 = .ok (.iload_n 1, 1) := by decide +kernel
theorem dX1_useHalf_12 : decode cX1_useHalf 12 = .ok (.putfield 62, 3) := by decide +kernel
theorem dX1_useHalf_15 : decode cX1_useHalf 15 = .ok (.aload_n 0, 1) := by decide +kernel
theorem dX1_useHalf_16 : decode cX1_useHalf 16 = .ok (.iload_n 1, 1) := by decide +kernel
theorem dX1_useHalf_17 : decode cX1_useHalf 17 = .ok (.aload_n 0, 1) := by decide +kernel
theorem dX1_useHalf_18 : decode cX1_useHalf 18 = .ok (.getfield 23, 3) := by decide +kernel
theorem dX1_useHalf_21 : decode cX1_useHalf 21 = .ok (.iadd, 1) := by decide +kernel
theorem dX1_useHalf_22 : decode cX1_useHalf 22 = .ok (.putfield 65, 3) := by decide +kernel
theorem dX1_useHalf_25 : decode cX1_useHalf 25 = .ok (.aload_n 0, 1) := by decide +kernel
theorem dX1_useHalf_26 : decode cX1_useHalf 26 = .ok (.iconst 0, 1) := by decide +kernel
theorem dX1_useHalf_27 : decode cX1_useHalf 27 = .ok (.putfield 68, 3) := by decide +kernel
theorem dX1_useHalf_30 : decode cX1_useHalf 30 = .ok (.return_, 1) := by decide +kernel
def wp_X1_useHalf : List Cond := .code yX1_useHalf cX1_useHalf 2 none :: ([.fieldLink RX1 56 "SteadyMachine$Heap" "base" "I", .fieldLink RX1 59 "SteadyMachine$Heap" "free" "I", .fieldLink RX1 62 "SteadyMachine$Heap" "scanned" "I", .fieldLink RX1 23 "SteadyMachine$Heap" "half" "I", .fieldLink RX1 65 "SteadyMachine$Heap" "fresh" "I", .fieldLink RX1 68 "SteadyMachine$Heap" "made" "I"] ++ wsX10)
theorem wq_X1_useHalf : wp_X1_useHalf.all goodWord = true := wa_c rfl (wa_a (by decide +kernel) uq_X1)
theorem wt_X1_useHalf : GoodIn lw_tbl wp_X1_useHalf := wm_c (List.mem_of_getElem? (i := 872) (by decide +kernel)) rfl (wm_a (goodIn_r _ [451, 452, 453, 450, 454, 458] (by decide +kernel) (by decide +kernel)) ut_X1)
theorem wi_X1_useHalf_X1 : ∀ w ∈ wsX10, w ∈ wp_X1_useHalf := fun w h => List.mem_cons_of_mem _ (List.mem_append_right _ h)
set_option maxHeartbeats 4000000 in
set_option maxRecDepth 100000 in
theorem c_X1_useHalf (l : Launch) (D : va_G) (sz t0 : Nat) (σ : sm_S) (α : sm_A) (p1 : Int32) (K : sm_S → Prop) (hF : mp_X1_useHalf σ p1 K) : Met l yX1_useHalf wp_X1_useHalf { frames := 0, cells := 0, slots := 0, locals := 0 } (sm_P sm_wX sm_tX 37 D sz t0 σ α [.ref (α.1 1), .int p1]) (va_Qv K (sm_B sm_wX D α) (sm_a α 37 sz)) 0 0 (sm_a α 37 sz) := by
  refine Met.ofW (cc := cX1_useHalf) (maxL := 2) (ret := none) (by decide) rfl ?_
  intro p e s m args below meth c s₁ B hml hv
  obtain ⟨rfl, hsz, hP, hK, hD0, hE⟩ := hv
  have hx := B.exec
  have hb := B.bytes
  have hr := B.returns
  have hts := atoms_spec (ws := wp_X1_useHalf) B.pre
  have hown : s.vm.findClass RX1 = some m.cls := findClass_of_methodNamed B.named
  have hlocks := B.notSynchronized
  subst hsz
  have hD : sm_D (sm_a α 37 s.heap.size) α 37 := hD0.own
  have hA : ∀ q : Nat, s.heap.size ≤ q → sm_a α 37 s.heap.size q := fun q h => Or.inr h
  generalize hAe : sm_a α 37 s.heap.size = A at hD hA hE ⊢
  have hS : va_S A s.heap s.heap [] := va_S.rf
  have in_X1 : ∀ w ∈ wsX10, w ∈ wp_X1_useHalf := wi_X1_useHalf_X1
  have k_0 := hts (.fieldLink RX1 56 "SteadyMachine$Heap" "base" "I") (by decide +kernel)
  have k_1 := hts (.fieldLink RX1 59 "SteadyMachine$Heap" "free" "I") (by decide +kernel)
  have k_2 := hts (.fieldLink RX1 62 "SteadyMachine$Heap" "scanned" "I") (by decide +kernel)
  have k_3 := hts (.fieldLink RX1 23 "SteadyMachine$Heap" "half" "I") (by decide +kernel)
  have k_4 := hts (.fieldLink RX1 65 "SteadyMachine$Heap" "fresh" "I") (by decide +kernel)
  have k_5 := hts (.fieldLink RX1 68 "SteadyMachine$Heap" "made" "I") (by decide +kernel)
  have hl := lv_entry ([.ref (α.1 1), .int p1]) (n := 2) (Nat.le_of_ble_eq_true rfl)
  rw [lg_entry_eq]
  generalize (lg_sl ([.ref (α.1 1), .int p1]) ++ List.replicate (2 - (lg_sl ([.ref (α.1 1), .int p1])).length) Slot.unset).toArray = ls at hl ⊢
  have hl : lv_has ls 2 [(0, .ref (α.1 1)), (1, .int p1)] := hl
  unfold mp_X1_useHalf at hF
  revert hP hS
  generalize hLo : ([] : List Loc) = locs
  suffices h9 : ∀ (H : Heap) (locs : List Loc), va_P D vwCl (sm_wX σ α) H → va_S A s.heap H locs → W p l e (headSpec wp_X1_useHalf { frames := 0, cells := 0, slots := 0, locals := 0 }).room s m ([.ref (α.1 1), .int p1] : List Value).toArray below meth c H locs 0 0 (MQ below (va_Qv K (sm_B sm_wX D α) A) ([.ref (α.1 1), .int p1] : List Value).toArray s 0 0 A) (F0 m 0 ls []) from fun hP hS => h9 s.heap locs hP hS
  intro H locs hP hS
  refine lv_aload_n hx hb dX1_useHalf_0 rfl (lv_at hl 0 rfl) ?_
  refine lv_iload_n hx hb dX1_useHalf_1 rfl (lv_at hl 1 rfl) ?_
  refine va_put (D := D) (ci := 1) (v := .int p1) (ty := .int) (C := RX1) (T := TX1) (N := 16) hx hb hts in_X1 tyX1 tyX1_ok nmX1 hown hK hP (hD.to (sm_wX_m _ _)) hS 1 (sm_gX1 σ α) rfl 4 (by decide) k_0 (fun _ h9 => h9) rfl (by decide +kernel) rfl rfl (Nat.le_of_ble_eq_true rfl) dX1_useHalf_2 (fun H locs hP _ hS => ?_)
  rw [sm_iX2] at hP
  obtain ⟨σ1, eσ1⟩ : ∃ x : sm_S, x = sm_i σ 2 p1 := ⟨_, rfl⟩
  replace hF := hF σ1 eσ1
  rw [← eσ1] at hP
  refine lv_aload_n hx hb dX1_useHalf_5 rfl (lv_at hl 0 rfl) ?_
  refine lv_iload_n hx hb dX1_useHalf_6 rfl (lv_at hl 1 rfl) ?_
  refine va_put (D := D) (ci := 1) (v := .int p1) (ty := .int) (C := RX1) (T := TX1) (N := 16) hx hb hts in_X1 tyX1 tyX1_ok nmX1 hown hK hP (hD.to (sm_wX_m _ _)) hS 1 (sm_gX1 σ1 α) rfl 5 (by decide) k_1 (fun _ h9 => h9) rfl (by decide +kernel) rfl rfl (Nat.le_of_ble_eq_true rfl) dX1_useHalf_7 (fun H locs hP _ hS => ?_)
  rw [sm_iX3] at hP
  obtain ⟨σ2, eσ2⟩ : ∃ x : sm_S, x = sm_i σ1 3 p1 := ⟨_, rfl⟩
  replace hF := hF σ2 eσ2
  rw [← eσ2] at hP
  refine lv_aload_n hx hb dX1_useHalf_10 rfl (lv_at hl 0 rfl) ?_
  refine lv_iload_n hx hb dX1_useHalf_11 rfl (lv_at hl 1 rfl) ?_
  refine va_put (D := D) (ci := 1) (v := .int p1) (ty := .int) (C := RX1) (T := TX1) (N := 16) hx hb hts in_X1 tyX1 tyX1_ok nmX1 hown hK hP (hD.to (sm_wX_m _ _)) hS 1 (sm_gX1 σ2 α) rfl 6 (by decide) k_2 (fun _ h9 => h9) rfl (by decide +kernel) rfl rfl (Nat.le_of_ble_eq_true rfl) dX1_useHalf_12 (fun H locs hP _ hS => ?_)
  rw [sm_iX4] at hP
  obtain ⟨σ3, eσ3⟩ : ∃ x : sm_S, x = sm_i σ2 4 p1 := ⟨_, rfl⟩
  replace hF := hF σ3 eσ3
  rw [← eσ3] at hP
  refine lv_aload_n hx hb dX1_useHalf_15 rfl (lv_at hl 0 rfl) ?_
  refine lv_iload_n hx hb dX1_useHalf_16 rfl (lv_at hl 1 rfl) ?_
  refine lv_aload_n hx hb dX1_useHalf_17 rfl (lv_at hl 0 rfl) ?_
  refine va_get (D := D) (ci := 1) (v := .int (σ3.1 1)) (C := RX1) (T := TX1) (N := 16) hx hb hts in_X1 hown hK hP 1 (sm_gX1 σ3 α) rfl 3 (by decide) k_3 (fun _ h9 => h9) rfl dX1_useHalf_18 ?_
  refine lv_iadd hx hb dX1_useHalf_21 ?_
  refine va_put (D := D) (ci := 1) (v := .int (p1 + (σ3.1 1))) (ty := .int) (C := RX1) (T := TX1) (N := 16) hx hb hts in_X1 tyX1 tyX1_ok nmX1 hown hK hP (hD.to (sm_wX_m _ _)) hS 1 (sm_gX1 σ3 α) rfl 7 (by decide) k_4 (fun _ h9 => h9) rfl (by decide +kernel) rfl rfl (Nat.le_of_ble_eq_true rfl) dX1_useHalf_22 (fun H locs hP _ hS => ?_)
  rw [sm_iX5] at hP
  obtain ⟨σ4, eσ4⟩ : ∃ x : sm_S, x = sm_i σ3 5 (p1 + (σ3.1 1)) := ⟨_, rfl⟩
  replace hF := hF σ4 eσ4
  rw [← eσ4] at hP
  refine lv_aload_n hx hb dX1_useHalf_25 rfl (lv_at hl 0 rfl) ?_
  refine lv_iconst (v := 0) hx hb dX1_useHalf_26 (by decide) ?_
  refine va_put (D := D) (ci := 1) (v := .int 0) (ty := .int) (C := RX1) (T := TX1) (N := 16) hx hb hts in_X1 tyX1 tyX1_ok nmX1 hown hK hP (hD.to (sm_wX_m _ _)) hS 1 (sm_gX1 σ4 α) rfl 10 (by decide) k_5 (fun _ h9 => h9) rfl (by decide +kernel) rfl rfl (Nat.le_of_ble_eq_true rfl) dX1_useHalf_27 (fun H locs hP _ hS => ?_)
  rw [sm_iX8] at hP
  obtain ⟨σ5, eσ5⟩ : ∃ x : sm_S, x = sm_i σ4 8 0 := ⟨_, rfl⟩
  replace hF := hF σ5 eσ5
  rw [← eσ5] at hP
  exact W.vret hx hb hr (fun t ht hW => ⟨⟨σ5, rfl, hF, (by unfold sm_B; rw [ht]; exact hP)⟩, hS.F ht⟩) hS.2.2 dX1_useHalf_30
theorem dX1_moved_0 : decode cX1_moved 0 = .ok (.aload_n 0, 1) := by decide +kernel
theorem dX1_moved_1 : decode cX1_moved 1 = .ok (.getfield 59, 3) := by decide +kernel
theorem dX1_moved_4 : decode cX1_moved 4 = .ok (.aload_n 0, 1) := by decide +kernel
theorem dX1_moved_5 : decode cX1_moved 5 = .ok (.getfield 56, 3) := by decide +kernel
theorem dX1_moved_8 : decode cX1_moved 8 = .ok (.isub, 1) := by decide +kernel
theorem dX1_moved_9 : decode cX1_moved 9 = .ok (.ireturn, 1) := by decide +kernel
def wp_X1_moved : List Cond := .code yX1_moved cX1_moved 1 (some .int) :: ([.fieldLink RX1 59 "SteadyMachine$Heap" "free" "I", .fieldLink RX1 56 "SteadyMachine$Heap" "base" "I"] ++ wsX10)
theorem wq_X1_moved : wp_X1_moved.all goodWord = true := wa_c rfl (wa_a (by decide +kernel) uq_X1)
theorem wt_X1_moved : GoodIn lw_tbl wp_X1_moved := wm_c (List.mem_of_getElem? (i := 896) (by decide +kernel)) rfl (wm_a (goodIn_r _ [452, 451] (by decide +kernel) (by decide +kernel)) ut_X1)
theorem wi_X1_moved_X1 : ∀ w ∈ wsX10, w ∈ wp_X1_moved := fun w h => List.mem_cons_of_mem _ (List.mem_append_right _ h)
set_option maxHeartbeats 4000000 in
set_option maxRecDepth 100000 in
theorem c_X1_moved (l : Launch) (D : va_G) (sz t0 : Nat) (σ : sm_S) (α : sm_A) (K : Int32 → sm_S → Prop) (hF : mp_X1_moved σ K) : Met l yX1_moved wp_X1_moved { frames := 0, cells := 0, slots := 0, locals := 0 } (sm_P sm_wX sm_tX 37 D sz t0 σ α [.ref (α.1 1)]) (va_Qi K (sm_B sm_wX D α) (sm_a α 37 sz)) 0 0 (sm_a α 37 sz) := by
  refine Met.ofW (cc := cX1_moved) (maxL := 1) (ret := (some .int)) (by decide) rfl ?_
  intro p e s m args below meth c s₁ B hml hv
  obtain ⟨rfl, hsz, hP, hK, hD0, hE⟩ := hv
  have hx := B.exec
  have hb := B.bytes
  have hr := B.returns
  have hts := atoms_spec (ws := wp_X1_moved) B.pre
  have hown : s.vm.findClass RX1 = some m.cls := findClass_of_methodNamed B.named
  have hlocks := B.notSynchronized
  subst hsz
  have hD : sm_D (sm_a α 37 s.heap.size) α 37 := hD0.own
  have hA : ∀ q : Nat, s.heap.size ≤ q → sm_a α 37 s.heap.size q := fun q h => Or.inr h
  generalize hAe : sm_a α 37 s.heap.size = A at hD hA hE ⊢
  have hS : va_S A s.heap s.heap [] := va_S.rf
  have in_X1 : ∀ w ∈ wsX10, w ∈ wp_X1_moved := wi_X1_moved_X1
  have k_0 := hts (.fieldLink RX1 59 "SteadyMachine$Heap" "free" "I") (by decide +kernel)
  have k_1 := hts (.fieldLink RX1 56 "SteadyMachine$Heap" "base" "I") (by decide +kernel)
  have hl := lv_entry ([.ref (α.1 1)]) (n := 1) (Nat.le_of_ble_eq_true rfl)
  rw [lg_entry_eq]
  generalize (lg_sl ([.ref (α.1 1)]) ++ List.replicate (1 - (lg_sl ([.ref (α.1 1)])).length) Slot.unset).toArray = ls at hl ⊢
  have hl : lv_has ls 1 [(0, .ref (α.1 1))] := hl
  unfold mp_X1_moved at hF
  revert hP hS
  generalize hLo : ([] : List Loc) = locs
  suffices h9 : ∀ (H : Heap) (locs : List Loc), va_P D vwCl (sm_wX σ α) H → va_S A s.heap H locs → W p l e (headSpec wp_X1_moved { frames := 0, cells := 0, slots := 0, locals := 0 }).room s m ([.ref (α.1 1)] : List Value).toArray below meth c H locs 0 0 (MQ below (va_Qi K (sm_B sm_wX D α) A) ([.ref (α.1 1)] : List Value).toArray s 0 0 A) (F0 m 0 ls []) from fun hP hS => h9 s.heap locs hP hS
  intro H locs hP hS
  refine lv_aload_n hx hb dX1_moved_0 rfl (lv_at hl 0 rfl) ?_
  refine va_get (D := D) (ci := 1) (v := .int (σ.1 3)) (C := RX1) (T := TX1) (N := 16) hx hb hts in_X1 hown hK hP 1 (sm_gX1 σ α) rfl 5 (by decide) k_0 (fun _ h9 => h9) rfl dX1_moved_1 ?_
  refine lv_aload_n hx hb dX1_moved_4 rfl (lv_at hl 0 rfl) ?_
  refine va_get (D := D) (ci := 1) (v := .int (σ.1 2)) (C := RX1) (T := TX1) (N := 16) hx hb hts in_X1 hown hK hP 1 (sm_gX1 σ α) rfl 4 (by decide) k_1 (fun _ h9 => h9) rfl dX1_moved_5 ?_
  refine lv_isub hx hb dX1_moved_8 ?_
  exact W.iret (v := ((σ.1 3) - (σ.1 2))) hx hb hr (fun t ht hW => ⟨⟨((σ.1 3) - (σ.1 2)), σ, rfl, hF, (by unfold sm_B; rw [ht]; exact hP)⟩, hS.F ht⟩) hS.2.2 dX1_moved_9
theorem dX1_isDone_0 : decode cX1_isDone 0 = .ok (.aload_n 0, 1) := by decide +kernel
theorem dX1_isDone_1 : decode cX1_isDone 1 = .ok (.getfield 62, 3) := by decide +kernel
theorem dX1_isDone_4 : decode cX1_isDone 4 = .ok (.aload_n 0, 1) := by decide +kernel
theorem dX1_isDone_5 : decode cX1_isDone 5 = .ok (.getfield 59, 3) := by decide +kernel
theorem dX1_isDone_8 : decode cX1_isDone 8 = .ok (.if_icmp .ne 23, 3) := by decide +kernel
theorem dX1_isDone_11 : decode cX1_isDone 11 = .ok (.aload_n 0, 1) := by decide +kernel
theorem dX1_isDone_12 : decode cX1_isDone 12 = .ok (.getfield 27, 3) := by decide +kernel
theorem dX1_isDone_15 : decode cX1_isDone 15 = .ok (.aload_n 0, 1) := by decide +kernel
theorem dX1_isDone_16 : decode cX1_isDone 16 = .ok (.getfield 68, 3) := by decide +kernel
theorem dX1_isDone_19 : decode cX1_isDone 19 = .ok (.imul, 1) := by decide +kernel
theorem dX1_isDone_20 : decode cX1_isDone 20 = .ok (.aload_n 0, 1) := by decide +kernel
theorem dX1_isDone_21 : decode cX1_isDone 21 = .ok (.invokevirtual 71, 3) := by decide +kernel
theorem dX1_isDone_24 : decode cX1_isDone 24 = .ok (.if_icmp .lt 7, 3) := by decide +kernel
theorem dX1_isDone_27 : decode cX1_isDone 27 = .ok (.iconst 1, 1) := by decide +kernel
theorem dX1_isDone_28 : decode cX1_isDone 28 = .ok (.goto 4, 3) := by decide +kernel
theorem dX1_isDone_31 : decode cX1_isDone 31 = .ok (.iconst 0, 1) := by decide +kernel
theorem dX1_isDone_32 : decode cX1_isDone 32 = .ok (.ireturn, 1) := by decide +kernel
def wp_X1_isDone : List Cond := .code yX1_isDone cX1_isDone 1 (some .boolean) :: (([.fieldLink RX1 62 "SteadyMachine$Heap" "scanned" "I", .fieldLink RX1 59 "SteadyMachine$Heap" "free" "I", .fieldLink RX1 27 "SteadyMachine$Heap" "k" "I", .fieldLink RX1 68 "SteadyMachine$Heap" "made" "I"] ++ (wsV RX1 71 RX1 yX1_moved wp_X1_moved)) ++ wsX10)
theorem wq_X1_isDone : wp_X1_isDone.all goodWord = true := wa_c rfl (wa_a (wa_a (by decide +kernel) (wa_V wq_X1_moved)) uq_X1)
theorem wt_X1_isDone : GoodIn lw_tbl wp_X1_isDone := wm_c (List.mem_of_getElem? (i := 892) (by decide +kernel)) rfl (wm_a (wm_a (goodIn_r _ [453, 452, 455, 458] (by decide +kernel) (by decide +kernel)) (wm_a (goodIn_r _ [893, 894, 895, 144] (by decide +kernel) (by decide +kernel)) wt_X1_moved)) ut_X1)
theorem wg_X1_isDone_X1_moved_71 : GoodIn wp_X1_isDone (wsV RX1 71 RX1 yX1_moved wp_X1_moved) := goodIn_sub (fun w h => List.mem_cons_of_mem _ (List.mem_append_left _ (List.mem_append_right _ h))) (wa_V wq_X1_moved)
theorem wi_X1_isDone_X1 : ∀ w ∈ wsX10, w ∈ wp_X1_isDone := fun w h => List.mem_cons_of_mem _ (List.mem_append_right _ h)
set_option maxHeartbeats 4000000 in
set_option maxRecDepth 100000 in
theorem c_X1_isDone (l : Launch) (D : va_G) (sz t0 : Nat) (σ : sm_S) (α : sm_A) (K : Int32 → sm_S → Prop) (hF : mp_X1_isDone σ K) : Met l yX1_isDone wp_X1_isDone { frames := 1, cells := 0, slots := 0, locals := 20 } (sm_P sm_wX sm_tX 37 D sz t0 σ α [.ref (α.1 1)]) (va_Qi K (sm_B sm_wX D α) (sm_a α 37 sz)) 0 0 (sm_a α 37 sz) := by
  refine Met.ofW (cc := cX1_isDone) (maxL := 1) (ret := (some .boolean)) (by decide) rfl ?_
  intro p e s m args below meth c s₁ B hml hv
  obtain ⟨rfl, hsz, hP, hK, hD0, hE⟩ := hv
  have hx := B.exec
  have hb := B.bytes
  have hr := B.returns
  have hts := atoms_spec (ws := wp_X1_isDone) B.pre
  have hown : s.vm.findClass RX1 = some m.cls := findClass_of_methodNamed B.named
  have hlocks := B.notSynchronized
  subst hsz
  have hD : sm_D (sm_a α 37 s.heap.size) α 37 := hD0.own
  have hA : ∀ q : Nat, s.heap.size ≤ q → sm_a α 37 s.heap.size q := fun q h => Or.inr h
  generalize hAe : sm_a α 37 s.heap.size = A at hD hA hE ⊢
  have hS : va_S A s.heap s.heap [] := va_S.rf
  have in_X1 : ∀ w ∈ wsX10, w ∈ wp_X1_isDone := wi_X1_isDone_X1
  have k_0 := hts (.fieldLink RX1 62 "SteadyMachine$Heap" "scanned" "I") (by decide +kernel)
  have k_1 := hts (.fieldLink RX1 59 "SteadyMachine$Heap" "free" "I") (by decide +kernel)
  have k_2 := hts (.fieldLink RX1 27 "SteadyMachine$Heap" "k" "I") (by decide +kernel)
  have k_3 := hts (.fieldLink RX1 68 "SteadyMachine$Heap" "made" "I") (by decide +kernel)
  have hl := lv_entry ([.ref (α.1 1)]) (n := 1) (Nat.le_of_ble_eq_true rfl)
  rw [lg_entry_eq]
  generalize (lg_sl ([.ref (α.1 1)]) ++ List.replicate (1 - (lg_sl ([.ref (α.1 1)])).length) Slot.unset).toArray = ls at hl ⊢
  have hl : lv_has ls 1 [(0, .ref (α.1 1))] := hl
  have B32 : ∀ (σ : sm_S) (y0 : Int32), mp_X1_isDone_32 K σ y0 → sm_J p l e (headSpec wp_X1_isDone { frames := 1, cells := 0, slots := 0, locals := 20 }).room s m ([.ref (α.1 1)] : List Value).toArray below meth c (MQ below (va_Qi K (sm_B sm_wX D α) A) ([.ref (α.1 1)] : List Value).toArray s 0 0 A) D A 1 (sm_wX σ α) 32 [] [.int y0] := by
    intro σ y0 hF H locs ls hP hS hl
    unfold mp_X1_isDone_32 at hF
    obtain ⟨h1, hF⟩ := hF
    exact W.zret (v := y0) hx hb hr h1.1 (fun t ht hW => ⟨⟨y0, σ, rfl, hF, (by unfold sm_B; rw [ht]; exact hP)⟩, hS.F ht⟩) hS.2.2 dX1_isDone_32
  have B31 : ∀ (σ : sm_S), mp_X1_isDone_31 K σ → sm_J p l e (headSpec wp_X1_isDone { frames := 1, cells := 0, slots := 0, locals := 20 }).room s m ([.ref (α.1 1)] : List Value).toArray below meth c (MQ below (va_Qi K (sm_B sm_wX D α) A) ([.ref (α.1 1)] : List Value).toArray s 0 0 A) D A 1 (sm_wX σ α) 31 [] [] := by
    intro σ hF H locs ls hP hS hl
    unfold mp_X1_isDone_31 at hF
    refine lv_iconst (v := 0) hx hb dX1_isDone_31 (by decide) ?_
    exact B32 σ 0 hF H locs ls hP hS (lv_sub hl [] rfl)
  unfold mp_X1_isDone at hF
  revert hP hS
  generalize hLo : ([] : List Loc) = locs
  suffices h9 : ∀ (H : Heap) (locs : List Loc), va_P D vwCl (sm_wX σ α) H → va_S A s.heap H locs → W p l e (headSpec wp_X1_isDone { frames := 1, cells := 0, slots := 0, locals := 20 }).room s m ([.ref (α.1 1)] : List Value).toArray below meth c H locs 0 0 (MQ below (va_Qi K (sm_B sm_wX D α) A) ([.ref (α.1 1)] : List Value).toArray s 0 0 A) (F0 m 0 ls []) from fun hP hS => h9 s.heap locs hP hS
  intro H locs hP hS
  refine lv_aload_n hx hb dX1_isDone_0 rfl (lv_at hl 0 rfl) ?_
  refine va_get (D := D) (ci := 1) (v := .int (σ.1 4)) (C := RX1) (T := TX1) (N := 16) hx hb hts in_X1 hown hK hP 1 (sm_gX1 σ α) rfl 6 (by decide) k_0 (fun _ h9 => h9) rfl dX1_isDone_1 ?_
  refine lv_aload_n hx hb dX1_isDone_4 rfl (lv_at hl 0 rfl) ?_
  refine va_get (D := D) (ci := 1) (v := .int (σ.1 3)) (C := RX1) (T := TX1) (N := 16) hx hb hts in_X1 hown hK hP 1 (sm_gX1 σ α) rfl 5 (by decide) k_1 (fun _ h9 => h9) rfl dX1_isDone_5 ?_
  refine lv_icmp_ne (tgt := 31) hx hb dX1_isDone_8 (by decide) (fun h2 => ?_) (fun h2 => ?_)
  · replace hF := hF.1 h2
    exact B31 σ hF H locs ls hP hS (lv_sub hl [] rfl)
  · replace hF := hF.2 h2
    refine lv_aload_n hx hb dX1_isDone_11 rfl (lv_at hl 0 rfl) ?_
    refine va_get (D := D) (ci := 1) (v := .int (σ.1 6)) (C := RX1) (T := TX1) (N := 16) hx hb hts in_X1 hown hK hP 1 (sm_gX1 σ α) rfl 8 (by decide) k_2 (fun _ h9 => h9) rfl dX1_isDone_12 ?_
    refine lv_aload_n hx hb dX1_isDone_15 rfl (lv_at hl 0 rfl) ?_
    refine va_get (D := D) (ci := 1) (v := .int (σ.1 8)) (C := RX1) (T := TX1) (N := 16) hx hb hts in_X1 hown hK hP 1 (sm_gX1 σ α) rfl 10 (by decide) k_3 (fun _ h9 => h9) rfl dX1_isDone_16 ?_
    refine lv_imul hx hb dX1_isDone_19 ?_
    refine lv_aload_n hx hb dX1_isDone_20 rfl (lv_at hl 0 rfl) ?_
    refine sm_vi (As := []) (rest := [.int ((σ.1 6) * (σ.1 8))]) hP hK hD hE hS hA ⟨hx, hb, hml, hown, hts⟩ hl.1 (c_X1_moved l D H.size t0 σ α _ hF) (cwV 0 hts wg_X1_isDone_X1_moved_71 rfl rfl rfl (by decide +kernel) ⟨Nat.le_of_ble_eq_true rfl, Nat.le_of_ble_eq_true rfl⟩) (va_recv hK hP (ci := 1) (q0 := 1) rfl (sm_gX1 σ α)) rfl rfl (Nat.le_of_ble_eq_true rfl) dX1_isDone_21 ⟨Nat.zero_le _, Nat.zero_le _⟩ (fun r4 σ3 H locs hF hP hS => ?_)
    refine lv_icmp_lt (tgt := 31) hx hb dX1_isDone_24 (by decide) (fun h5 => ?_) (fun h5 => ?_)
    · replace hF := hF.1 h5
      exact B31 σ3 hF H locs ls hP hS (lv_sub hl [] rfl)
    · replace hF := hF.2 h5
      refine lv_iconst (v := 1) hx hb dX1_isDone_27 (by decide) ?_
      refine lv_goto (tgt := 32) hx hb dX1_isDone_28 (by decide) ?_
      exact B32 σ3 1 hF H locs ls hP hS (lv_sub hl [] rfl)
theorem dX1_beginStep_0 : decode cX1_beginStep 0 = .ok (.aload_n 0, 1) := by decide +kernel
theorem dX1_beginStep_1 : decode cX1_beginStep 1 = .ok (.iconst 0, 1) := by decide +kernel
theorem dX1_beginStep_2 : decode cX1_beginStep 2 = .ok (.putfield 75, 3) := by decide +kernel
theorem dX1_beginStep_5 : decode cX1_beginStep 5 = .ok (.return_, 1) := by decide +kernel
def wp_X1_beginStep : List Cond := .code yX1_beginStep cX1_beginStep 1 none :: ([.fieldLink RX1 75 "SteadyMachine$Heap" "looks" "I"] ++ wsX10)
theorem wq_X1_beginStep : wp_X1_beginStep.all goodWord = true := wa_c rfl (wa_a (by decide +kernel) uq_X1)
theorem wt_X1_beginStep : GoodIn lw_tbl wp_X1_beginStep := wm_c (List.mem_of_getElem? (i := 948) (by decide +kernel)) rfl (wm_a (goodIn_r _ [471] (by decide +kernel) (by decide +kernel)) ut_X1)
theorem wi_X1_beginStep_X1 : ∀ w ∈ wsX10, w ∈ wp_X1_beginStep := fun w h => List.mem_cons_of_mem _ (List.mem_append_right _ h)
set_option maxHeartbeats 4000000 in
set_option maxRecDepth 100000 in
theorem c_X1_beginStep (l : Launch) (D : va_G) (sz t0 : Nat) (σ : sm_S) (α : sm_A) (K : sm_S → Prop) (hF : mp_X1_beginStep σ K) : Met l yX1_beginStep wp_X1_beginStep { frames := 0, cells := 0, slots := 0, locals := 0 } (sm_P sm_wX sm_tX 37 D sz t0 σ α [.ref (α.1 1)]) (va_Qv K (sm_B sm_wX D α) (sm_a α 37 sz)) 0 0 (sm_a α 37 sz) := by
  refine Met.ofW (cc := cX1_beginStep) (maxL := 1) (ret := none) (by decide) rfl ?_
  intro p e s m args below meth c s₁ B hml hv
  obtain ⟨rfl, hsz, hP, hK, hD0, hE⟩ := hv
  have hx := B.exec
  have hb := B.bytes
  have hr := B.returns
  have hts := atoms_spec (ws := wp_X1_beginStep) B.pre
  have hown : s.vm.findClass RX1 = some m.cls := findClass_of_methodNamed B.named
  have hlocks := B.notSynchronized
  subst hsz
  have hD : sm_D (sm_a α 37 s.heap.size) α 37 := hD0.own
  have hA : ∀ q : Nat, s.heap.size ≤ q → sm_a α 37 s.heap.size q := fun q h => Or.inr h
  generalize hAe : sm_a α 37 s.heap.size = A at hD hA hE ⊢
  have hS : va_S A s.heap s.heap [] := va_S.rf
  have in_X1 : ∀ w ∈ wsX10, w ∈ wp_X1_beginStep := wi_X1_beginStep_X1
  have k_0 := hts (.fieldLink RX1 75 "SteadyMachine$Heap" "looks" "I") (by decide +kernel)
  have hl := lv_entry ([.ref (α.1 1)]) (n := 1) (Nat.le_of_ble_eq_true rfl)
  rw [lg_entry_eq]
  generalize (lg_sl ([.ref (α.1 1)]) ++ List.replicate (1 - (lg_sl ([.ref (α.1 1)])).length) Slot.unset).toArray = ls at hl ⊢
  have hl : lv_has ls 1 [(0, .ref (α.1 1))] := hl
  unfold mp_X1_beginStep at hF
  revert hP hS
  generalize hLo : ([] : List Loc) = locs
  suffices h9 : ∀ (H : Heap) (locs : List Loc), va_P D vwCl (sm_wX σ α) H → va_S A s.heap H locs → W p l e (headSpec wp_X1_beginStep { frames := 0, cells := 0, slots := 0, locals := 0 }).room s m ([.ref (α.1 1)] : List Value).toArray below meth c H locs 0 0 (MQ below (va_Qv K (sm_B sm_wX D α) A) ([.ref (α.1 1)] : List Value).toArray s 0 0 A) (F0 m 0 ls []) from fun hP hS => h9 s.heap locs hP hS
  intro H locs hP hS
  refine lv_aload_n hx hb dX1_beginStep_0 rfl (lv_at hl 0 rfl) ?_
  refine lv_iconst (v := 0) hx hb dX1_beginStep_1 (by decide) ?_
  refine va_put (D := D) (ci := 1) (v := .int 0) (ty := .int) (C := RX1) (T := TX1) (N := 16) hx hb hts in_X1 tyX1 tyX1_ok nmX1 hown hK hP (hD.to (sm_wX_m _ _)) hS 1 (sm_gX1 σ α) rfl 15 (by decide) k_0 (fun _ h9 => h9) rfl (by decide +kernel) rfl rfl (Nat.le_of_ble_eq_true rfl) dX1_beginStep_2 (fun H locs hP _ hS => ?_)
  rw [sm_iX13] at hP
  obtain ⟨σ1, eσ1⟩ : ∃ x : sm_S, x = sm_i σ 13 0 := ⟨_, rfl⟩
  replace hF := hF σ1 eσ1
  rw [← eσ1] at hP
  exact W.vret hx hb hr (fun t ht hW => ⟨⟨σ1, rfl, hF, (by unfold sm_B; rw [ht]; exact hP)⟩, hS.F ht⟩) hS.2.2 dX1_beginStep_5
theorem dX1_endStep_0 : decode cX1_endStep 0 = .ok (.aload_n 0, 1) := by decide +kernel
theorem dX1_endStep_1 : decode cX1_endStep 1 = .ok (.aload_n 0, 1) := by decide +kernel
theorem dX1_endStep_2 : decode cX1_endStep 2 = .ok (.getfield 48, 3) := by decide +kernel
theorem dX1_endStep_5 : decode cX1_endStep 5 = .ok (.ifCond .eq 26, 3) := by decide +kernel
theorem dX1_endStep_8 : decode cX1_endStep 8 = .ok (.aload_n 0, 1) := by decide +kernel
theorem dX1_endStep_9 : decode cX1_endStep 9 = .ok (.getfield 75, 3) := by decide +kernel
theorem dX1_endStep_12 : decode cX1_endStep 12 = .ok (.sipush 700, 3) := by decide +kernel
theorem dX1_endStep_15 : decode cX1_endStep 15 = .ok (.aload_n 0, 1) := by decide +kernel
theorem dX1_endStep_16 : decode cX1_endStep 16 = .ok (.getfield 27, 3) := by decide +kernel
theorem dX1_endStep_19 : decode cX1_endStep 19 = .ok (.imul, 1) := by decide +kernel
theorem dX1_endStep_20 : decode cX1_endStep 20 = .ok (.sipush 200, 3) := by decide +kernel
theorem dX1_endStep_23 : decode cX1_endStep 23 = .ok (.iadd, 1) := by decide +kernel
theorem dX1_endStep_24 : decode cX1_endStep 24 = .ok (.if_icmp .gt 7, 3) := by decide +kernel
theorem dX1_endStep_27 : decode cX1_endStep 27 = .ok (.iconst 1, 1) := by decide +kernel
theorem dX1_endStep_28 : decode cX1_endStep 28 = .ok (.goto 4, 3) := by decide +kernel
theorem dX1_endStep_31 : decode cX1_endStep 31 = .ok (.iconst 0, 1) := by decide +kernel
theorem dX1_endStep_32 : decode cX1_endStep 32 = .ok (.putfield 48, 3) := by decide +kernel
theorem dX1_endStep_35 : decode cX1_endStep 35 = .ok (.return_, 1) := by decide +kernel
def wp_X1_endStep : List Cond := .code yX1_endStep cX1_endStep 1 none :: ([.fieldLink RX1 48 "SteadyMachine$Heap" "steady" "Z", .fieldLink RX1 75 "SteadyMachine$Heap" "looks" "I", .fieldLink RX1 27 "SteadyMachine$Heap" "k" "I"] ++ wsX10)
theorem wq_X1_endStep : wp_X1_endStep.all goodWord = true := wa_c rfl (wa_a (by decide +kernel) uq_X1)
theorem wt_X1_endStep : GoodIn lw_tbl wp_X1_endStep := wm_c (List.mem_of_getElem? (i := 1092) (by decide +kernel)) rfl (wm_a (goodIn_r _ [469, 471, 455] (by decide +kernel) (by decide +kernel)) ut_X1)
theorem wi_X1_endStep_X1 : ∀ w ∈ wsX10, w ∈ wp_X1_endStep := fun w h => List.mem_cons_of_mem _ (List.mem_append_right _ h)
set_option maxHeartbeats 4000000 in
set_option maxRecDepth 100000 in
theorem c_X1_endStep (l : Launch) (D : va_G) (sz t0 : Nat) (σ : sm_S) (α : sm_A) (K : sm_S → Prop) (hF : mp_X1_endStep σ K) : Met l yX1_endStep wp_X1_endStep { frames := 0, cells := 0, slots := 0, locals := 0 } (sm_P sm_wX sm_tX 37 D sz t0 σ α [.ref (α.1 1)]) (va_Qv K (sm_B sm_wX D α) (sm_a α 37 sz)) 0 0 (sm_a α 37 sz) := by
  refine Met.ofW (cc := cX1_endStep) (maxL := 1) (ret := none) (by decide) rfl ?_
  intro p e s m args below meth c s₁ B hml hv
  obtain ⟨rfl, hsz, hP, hK, hD0, hE⟩ := hv
  have hx := B.exec
  have hb := B.bytes
  have hr := B.returns
  have hts := atoms_spec (ws := wp_X1_endStep) B.pre
  have hown : s.vm.findClass RX1 = some m.cls := findClass_of_methodNamed B.named
  have hlocks := B.notSynchronized
  subst hsz
  have hD : sm_D (sm_a α 37 s.heap.size) α 37 := hD0.own
  have hA : ∀ q : Nat, s.heap.size ≤ q → sm_a α 37 s.heap.size q := fun q h => Or.inr h
  generalize hAe : sm_a α 37 s.heap.size = A at hD hA hE ⊢
  have hS : va_S A s.heap s.heap [] := va_S.rf
  have in_X1 : ∀ w ∈ wsX10, w ∈ wp_X1_endStep := wi_X1_endStep_X1
  have k_0 := hts (.fieldLink RX1 48 "SteadyMachine$Heap" "steady" "Z") (by decide +kernel)
  have k_1 := hts (.fieldLink RX1 75 "SteadyMachine$Heap" "looks" "I") (by decide +kernel)
  have k_2 := hts (.fieldLink RX1 27 "SteadyMachine$Heap" "k" "I") (by decide +kernel)
  have hl := lv_entry ([.ref (α.1 1)]) (n := 1) (Nat.le_of_ble_eq_true rfl)
  rw [lg_entry_eq]
  generalize (lg_sl ([.ref (α.1 1)]) ++ List.replicate (1 - (lg_sl ([.ref (α.1 1)])).length) Slot.unset).toArray = ls at hl ⊢
  have hl : lv_has ls 1 [(0, .ref (α.1 1))] := hl
  have B32 : ∀ (σ : sm_S) (y1 : Int32), mp_X1_endStep_32 K σ y1 → sm_J p l e (headSpec wp_X1_endStep { frames := 0, cells := 0, slots := 0, locals := 0 }).room s m ([.ref (α.1 1)] : List Value).toArray below meth c (MQ below (va_Qv K (sm_B sm_wX D α) A) ([.ref (α.1 1)] : List Value).toArray s 0 0 A) D A 1 (sm_wX σ α) 32 [] [.int y1, .ref (α.1 1)] := by
    intro σ y1 hF H locs ls hP hS hl
    unfold mp_X1_endStep_32 at hF
    obtain ⟨h1, hF⟩ := hF
    refine va_put (D := D) (ci := 1) (v := .int y1) (ty := .boolean) (C := RX1) (T := TX1) (N := 16) hx hb hts in_X1 tyX1 tyX1_ok nmX1 hown hK hP (hD.to (sm_wX_m _ _)) hS 1 (sm_gX1 σ α) rfl 14 (by decide) k_0 (fun _ h9 => h9) rfl (by decide +kernel) h1.1 h1.2 (Nat.le_of_ble_eq_true rfl) dX1_endStep_32 (fun H locs hP _ hS => ?_)
    rw [sm_iX12] at hP
    obtain ⟨σ2, eσ2⟩ : ∃ x : sm_S, x = sm_i σ 12 y1 := ⟨_, rfl⟩
    replace hF := hF σ2 eσ2
    rw [← eσ2] at hP
    exact W.vret hx hb hr (fun t ht hW => ⟨⟨σ2, rfl, hF, (by unfold sm_B; rw [ht]; exact hP)⟩, hS.F ht⟩) hS.2.2 dX1_endStep_35
  have B31 : ∀ (σ : sm_S), mp_X1_endStep_31 K σ → sm_J p l e (headSpec wp_X1_endStep { frames := 0, cells := 0, slots := 0, locals := 0 }).room s m ([.ref (α.1 1)] : List Value).toArray below meth c (MQ below (va_Qv K (sm_B sm_wX D α) A) ([.ref (α.1 1)] : List Value).toArray s 0 0 A) D A 1 (sm_wX σ α) 31 [] [.ref (α.1 1)] := by
    intro σ hF H locs ls hP hS hl
    unfold mp_X1_endStep_31 at hF
    refine lv_iconst (v := 0) hx hb dX1_endStep_31 (by decide) ?_
    exact B32 σ 0 hF H locs ls hP hS (lv_sub hl [] rfl)
  unfold mp_X1_endStep at hF
  revert hP hS
  generalize hLo : ([] : List Loc) = locs
  suffices h9 : ∀ (H : Heap) (locs : List Loc), va_P D vwCl (sm_wX σ α) H → va_S A s.heap H locs → W p l e (headSpec wp_X1_endStep { frames := 0, cells := 0, slots := 0, locals := 0 }).room s m ([.ref (α.1 1)] : List Value).toArray below meth c H locs 0 0 (MQ below (va_Qv K (sm_B sm_wX D α) A) ([.ref (α.1 1)] : List Value).toArray s 0 0 A) (F0 m 0 ls []) from fun hP hS => h9 s.heap locs hP hS
  intro H locs hP hS
  refine lv_aload_n hx hb dX1_endStep_0 rfl (lv_at hl 0 rfl) ?_
  refine lv_aload_n hx hb dX1_endStep_1 rfl (lv_at hl 0 rfl) ?_
  refine va_get (D := D) (ci := 1) (v := .int (σ.1 12)) (C := RX1) (T := TX1) (N := 16) hx hb hts in_X1 hown hK hP 1 (sm_gX1 σ α) rfl 14 (by decide) k_0 (fun _ h9 => h9) rfl dX1_endStep_2 ?_
  refine lv_if_eq (tgt := 31) hx hb dX1_endStep_5 (by decide) (fun h3 => ?_) (fun h3 => ?_)
  · replace hF := hF.1 h3
    exact B31 σ hF H locs ls hP hS (lv_sub hl [] rfl)
  · replace hF := hF.2 h3
    refine lv_aload_n hx hb dX1_endStep_8 rfl (lv_at hl 0 rfl) ?_
    refine va_get (D := D) (ci := 1) (v := .int (σ.1 13)) (C := RX1) (T := TX1) (N := 16) hx hb hts in_X1 hown hK hP 1 (sm_gX1 σ α) rfl 15 (by decide) k_1 (fun _ h9 => h9) rfl dX1_endStep_9 ?_
    refine lv_sipush (v := 700) hx hb dX1_endStep_12 (by decide) ?_
    refine lv_aload_n hx hb dX1_endStep_15 rfl (lv_at hl 0 rfl) ?_
    refine va_get (D := D) (ci := 1) (v := .int (σ.1 6)) (C := RX1) (T := TX1) (N := 16) hx hb hts in_X1 hown hK hP 1 (sm_gX1 σ α) rfl 8 (by decide) k_2 (fun _ h9 => h9) rfl dX1_endStep_16 ?_
    refine lv_imul hx hb dX1_endStep_19 ?_
    refine lv_sipush (v := 200) hx hb dX1_endStep_20 (by decide) ?_
    refine lv_iadd hx hb dX1_endStep_23 ?_
    refine lv_icmp_gt (tgt := 31) hx hb dX1_endStep_24 (by decide) (fun h4 => ?_) (fun h4 => ?_)
    · replace hF := hF.1 h4
      exact B31 σ hF H locs ls hP hS (lv_sub hl [] rfl)
    · replace hF := hF.2 h4
      refine lv_iconst (v := 1) hx hb dX1_endStep_27 (by decide) ?_
      refine lv_goto (tgt := 32) hx hb dX1_endStep_28 (by decide) ?_
      exact B32 σ 1 hF H locs ls hP hS (lv_sub hl [] rfl)
theorem dX1_peek_0 : decode cX1_peek 0 = .ok (.iload_n 1, 1) := by decide +kernel
theorem dX1_peek_1 : decode cX1_peek 1 = .ok (.ifCond .le 21, 3) := by decide +kernel
theorem dX1_peek_4 : decode cX1_peek 4 = .ok (.iload_n 1, 1) := by decide +kernel
theorem dX1_peek_5 : decode cX1_peek 5 = .ok (.aload_n 0, 1) := by decide +kernel
theorem dX1_peek_6 : decode cX1_peek 6 = .ok (.getfield 9, 3) := by decide +kernel
theorem dX1_peek_9 : decode cX1_peek 9 = .ok (.arraylength, 1) := by decide +kernel
theorem dX1_peek_10 : decode cX1_peek 10 = .ok (.if_icmp .ge 12, 3) := by decide +kernel
theorem dX1_peek_13 : decode cX1_peek 13 = .ok (.aload_n 0, 1) := by decide +kernel
theorem dX1_peek_14 : decode cX1_peek 14 = .ok (.getfield 9, 3) := by decide +kernel
theorem dX1_peek_17 : decode cX1_peek 17 = .ok (.iload_n 1, 1) := by decide +kernel
theorem dX1_peek_18 : decode cX1_peek 18 = .ok (.laload, 1) := by decide +kernel
theorem dX1_peek_19 : decode cX1_peek 19 = .ok (.goto 4, 3) := by decide +kernel
theorem dX1_peek_22 : decode cX1_peek 22 = .ok (.lconst 0, 1) := by decide +kernel
theorem dX1_peek_23 : decode cX1_peek 23 = .ok (.lreturn, 1) := by decide +kernel
def wp_X1_peek : List Cond := .code yX1_peek cX1_peek 2 (some .long) :: ([.fieldLink RX1 9 "SteadyMachine$Heap" "cells" "[J"] ++ wsX10)
theorem wq_X1_peek : wp_X1_peek.all goodWord = true := wa_c rfl (wa_a (by decide +kernel) uq_X1)
theorem wt_X1_peek : GoodIn lw_tbl wp_X1_peek := wm_c (List.mem_of_getElem? (i := 1117) (by decide +kernel)) rfl (wm_a (goodIn_r _ [449] (by decide +kernel) (by decide +kernel)) ut_X1)
theorem wi_X1_peek_X1 : ∀ w ∈ wsX10, w ∈ wp_X1_peek := fun w h => List.mem_cons_of_mem _ (List.mem_append_right _ h)
set_option maxHeartbeats 4000000 in
set_option maxRecDepth 100000 in
theorem c_X1_peek (l : Launch) (D : va_G) (sz t0 : Nat) (σ : sm_S) (α : sm_A) (p1 : Int32) (K : Int64 → sm_S → Prop) (hF : mp_X1_peek σ p1 K) : Met l yX1_peek wp_X1_peek { frames := 0, cells := 0, slots := 0, locals := 0 } (sm_P sm_wX sm_tX 37 D sz t0 σ α [.ref (α.1 1), .int p1]) (va_Ql K (sm_B sm_wX D α) (sm_a α 37 sz)) 0 0 (sm_a α 37 sz) := by
  refine Met.ofW (cc := cX1_peek) (maxL := 2) (ret := (some .long)) (by decide) rfl ?_
  intro p e s m args below meth c s₁ B hml hv
  obtain ⟨rfl, hsz, hP, hK, hD0, hE⟩ := hv
  have hx := B.exec
  have hb := B.bytes
  have hr := B.returns
  have hts := atoms_spec (ws := wp_X1_peek) B.pre
  have hown : s.vm.findClass RX1 = some m.cls := findClass_of_methodNamed B.named
  have hlocks := B.notSynchronized
  subst hsz
  have hD : sm_D (sm_a α 37 s.heap.size) α 37 := hD0.own
  have hA : ∀ q : Nat, s.heap.size ≤ q → sm_a α 37 s.heap.size q := fun q h => Or.inr h
  generalize hAe : sm_a α 37 s.heap.size = A at hD hA hE ⊢
  have hS : va_S A s.heap s.heap [] := va_S.rf
  have in_X1 : ∀ w ∈ wsX10, w ∈ wp_X1_peek := wi_X1_peek_X1
  have k_0 := hts (.fieldLink RX1 9 "SteadyMachine$Heap" "cells" "[J") (by decide +kernel)
  have hl := lv_entry ([.ref (α.1 1), .int p1]) (n := 2) (Nat.le_of_ble_eq_true rfl)
  rw [lg_entry_eq]
  generalize (lg_sl ([.ref (α.1 1), .int p1]) ++ List.replicate (2 - (lg_sl ([.ref (α.1 1), .int p1])).length) Slot.unset).toArray = ls at hl ⊢
  have hl : lv_has ls 2 [(0, .ref (α.1 1)), (1, .int p1)] := hl
  have B23 : ∀ (σ : sm_S) (y0 : Int64), mp_X1_peek_23 K σ y0 → sm_J p l e (headSpec wp_X1_peek { frames := 0, cells := 0, slots := 0, locals := 0 }).room s m ([.ref (α.1 1), .int p1] : List Value).toArray below meth c (MQ below (va_Ql K (sm_B sm_wX D α) A) ([.ref (α.1 1), .int p1] : List Value).toArray s 0 0 A) D A 2 (sm_wX σ α) 23 [] [.long y0] := by
    intro σ y0 hF H locs ls hP hS hl
    unfold mp_X1_peek_23 at hF
    exact W.lret (v := y0) hx hb hr (fun t ht hW => ⟨⟨y0, σ, rfl, hF, (by unfold sm_B; rw [ht]; exact hP)⟩, hS.F ht⟩) hS.2.2 dX1_peek_23
  have B22 : ∀ (σ : sm_S), mp_X1_peek_22 K σ → sm_J p l e (headSpec wp_X1_peek { frames := 0, cells := 0, slots := 0, locals := 0 }).room s m ([.ref (α.1 1), .int p1] : List Value).toArray below meth c (MQ below (va_Ql K (sm_B sm_wX D α) A) ([.ref (α.1 1), .int p1] : List Value).toArray s 0 0 A) D A 2 (sm_wX σ α) 22 [] [] := by
    intro σ hF H locs ls hP hS hl
    unfold mp_X1_peek_22 at hF
    refine lv_lconst (v := 0) hx hb dX1_peek_22 (by decide) ?_
    exact B23 σ 0 hF H locs ls hP hS (lv_sub hl [] rfl)
  unfold mp_X1_peek at hF
  revert hP hS
  generalize hLo : ([] : List Loc) = locs
  suffices h9 : ∀ (H : Heap) (locs : List Loc), va_P D vwCl (sm_wX σ α) H → va_S A s.heap H locs → W p l e (headSpec wp_X1_peek { frames := 0, cells := 0, slots := 0, locals := 0 }).room s m ([.ref (α.1 1), .int p1] : List Value).toArray below meth c H locs 0 0 (MQ below (va_Ql K (sm_B sm_wX D α) A) ([.ref (α.1 1), .int p1] : List Value).toArray s 0 0 A) (F0 m 0 ls []) from fun hP hS => h9 s.heap locs hP hS
  intro H locs hP hS
  refine lv_iload_n hx hb dX1_peek_0 rfl (lv_at hl 1 rfl) ?_
  refine lv_if_le (tgt := 22) hx hb dX1_peek_1 (by decide) (fun h1 => ?_) (fun h1 => ?_)
  · replace hF := hF.1 h1
    exact B22 σ hF H locs ls hP hS (lv_sub hl [] rfl)
  · replace hF := hF.2 h1
    refine lv_iload_n hx hb dX1_peek_4 rfl (lv_at hl 1 rfl) ?_
    refine lv_aload_n hx hb dX1_peek_5 rfl (lv_at hl 0 rfl) ?_
    refine va_get (D := D) (ci := 1) (v := .ref (α.1 17)) (C := RX1) (T := TX1) (N := 16) hx hb hts in_X1 hown hK hP 1 (sm_gX1 σ α) rfl 2 (by decide) k_0 (fun _ h9 => h9) rfl dX1_peek_6 ?_
    refine va_alen (v := nI (σ.2.2.1 17)) hx hb hK hP 17 6 (sm_aX17 σ α) (sm_yX17 α) rfl dX1_peek_9 ?_
    refine lv_icmp_ge (tgt := 22) hx hb dX1_peek_10 (by decide) (fun h2 => ?_) (fun h2 => ?_)
    · replace hF := hF.1 h2
      exact B22 σ hF H locs ls hP hS (lv_sub hl [] rfl)
    · replace hF := hF.2 h2
      refine lv_aload_n hx hb dX1_peek_13 rfl (lv_at hl 0 rfl) ?_
      refine va_get (D := D) (ci := 1) (v := .ref (α.1 17)) (C := RX1) (T := TX1) (N := 16) hx hb hts in_X1 hown hK hP 1 (sm_gX1 σ α) rfl 2 (by decide) k_0 (fun _ h9 => h9) rfl dX1_peek_14 ?_
      refine lv_iload_n hx hb dX1_peek_17 rfl (lv_at hl 1 rfl) ?_
      obtain ⟨h3, hF⟩ := hF
      refine va_lald (n := (σ.2.2.1 17)) (f := (σ.2.2.2.2 17)) hx hb hK hP 17 6 (sm_aX17 σ α) (sm_yX17 α) h3 dX1_peek_18 ?_
      refine lv_goto (tgt := 23) hx hb dX1_peek_19 (by decide) ?_
      exact B23 σ ((σ.2.2.2.2 17) p1.toNatClampNeg) hF H locs ls hP hS (lv_sub hl [] rfl)
theorem dX1_look_0 : decode cX1_look 0 = .ok (.aload_n 0, 1) := by decide +kernel
theorem dX1_look_1 : decode cX1_look 1 = .ok (.dup, 1) := by decide +kernel
theorem dX1_look_2 : decode cX1_look 2 = .ok (.getfield 75, 3) := by decide +kernel
theorem dX1_look_5 : decode cX1_look 5 = .ok (.iconst 1, 1) := by decide +kernel
theorem dX1_look_6 : decode cX1_look 6 = .ok (.iadd, 1) := by decide +kernel
theorem dX1_look_7 : decode cX1_look 7 = .ok (.putfield 75, 3) := by decide +kernel
theorem dX1_look_10 : decode cX1_look 10 = .ok (.iload_n 1, 1) := by decide +kernel
theorem dX1_look_11 : decode cX1_look 11 = .ok (.ifCond .le 21, 3) := by decide +kernel
theorem dX1_look_14 : decode cX1_look 14 = .ok (.iload_n 1, 1) := by decide +kernel
theorem dX1_look_15 : decode cX1_look 15 = .ok (.aload_n 0, 1) := by decide +kernel
theorem dX1_look_16 : decode cX1_look 16 = .ok (.getfield 9, 3) := by decide +kernel
theorem dX1_look_19 : decode cX1_look 19 = .ok (.arraylength, 1) := by decide +kernel
theorem dX1_look_20 : decode cX1_look 20 = .ok (.if_icmp .ge 12, 3) := by decide +kernel
theorem dX1_look_23 : decode cX1_look 23 = .ok (.aload_n 0, 1) := by decide +kernel
theorem dX1_look_24 : decode cX1_look 24 = .ok (.getfield 9, 3) := by decide +kernel
theorem dX1_look_27 : decode cX1_look 27 = .ok (.iload_n 1, 1) := by decide +kernel
theorem dX1_look_28 : decode cX1_look 28 = .ok (.laload, 1) := by decide +kernel
theorem dX1_look_29 : decode cX1_look 29 = .ok (.goto 4, 3) := by decide +kernel
theorem dX1_look_32 : decode cX1_look 32 = .ok (.lconst 0, 1) := by decide +kernel
theorem dX1_look_33 : decode cX1_look 33 = .ok (.lreturn, 1) := by decide +kernel
def wp_X1_look : List Cond := .code yX1_look cX1_look 2 (some .long) :: ([.fieldLink RX1 75 "SteadyMachine$Heap" "looks" "I", .fieldLink RX1 9 "SteadyMachine$Heap" "cells" "[J"] ++ wsX10)
theorem wq_X1_look : wp_X1_look.all goodWord = true := wa_c rfl (wa_a (by decide +kernel) uq_X1)
theorem wt_X1_look : GoodIn lw_tbl wp_X1_look := wm_c (List.mem_of_getElem? (i := 913) (by decide +kernel)) rfl (wm_a (goodIn_r _ [471, 449] (by decide +kernel) (by decide +kernel)) ut_X1)
theorem wi_X1_look_X1 : ∀ w ∈ wsX10, w ∈ wp_X1_look := fun w h => List.mem_cons_of_mem _ (List.mem_append_right _ h)
set_option maxHeartbeats 4000000 in
set_option maxRecDepth 100000 in
theorem c_X1_look (l : Launch) (D : va_G) (sz t0 : Nat) (σ : sm_S) (α : sm_A) (p1 : Int32) (K : Int64 → sm_S → Prop) (hF : mp_X1_look σ p1 K) : Met l yX1_look wp_X1_look { frames := 0, cells := 0, slots := 0, locals := 0 } (sm_P sm_wX sm_tX 37 D sz t0 σ α [.ref (α.1 1), .int p1]) (va_Ql K (sm_B sm_wX D α) (sm_a α 37 sz)) 0 0 (sm_a α 37 sz) := by
  refine Met.ofW (cc := cX1_look) (maxL := 2) (ret := (some .long)) (by decide) rfl ?_
  intro p e s m args below meth c s₁ B hml hv
  obtain ⟨rfl, hsz, hP, hK, hD0, hE⟩ := hv
  have hx := B.exec
  have hb := B.bytes
  have hr := B.returns
  have hts := atoms_spec (ws := wp_X1_look) B.pre
  have hown : s.vm.findClass RX1 = some m.cls := findClass_of_methodNamed B.named
  have hlocks := B.notSynchronized
  subst hsz
  have hD : sm_D (sm_a α 37 s.heap.size) α 37 := hD0.own
  have hA : ∀ q : Nat, s.heap.size ≤ q → sm_a α 37 s.heap.size q := fun q h => Or.inr h
  generalize hAe : sm_a α 37 s.heap.size = A at hD hA hE ⊢
  have hS : va_S A s.heap s.heap [] := va_S.rf
  have in_X1 : ∀ w ∈ wsX10, w ∈ wp_X1_look := wi_X1_look_X1
  have k_0 := hts (.fieldLink RX1 75 "SteadyMachine$Heap" "looks" "I") (by decide +kernel)
  have k_1 := hts (.fieldLink RX1 9 "SteadyMachine$Heap" "cells" "[J") (by decide +kernel)
  have hl := lv_entry ([.ref (α.1 1), .int p1]) (n := 2) (Nat.le_of_ble_eq_true rfl)
  rw [lg_entry_eq]
  generalize (lg_sl ([.ref (α.1 1), .int p1]) ++ List.replicate (2 - (lg_sl ([.ref (α.1 1), .int p1])).length) Slot.unset).toArray = ls at hl ⊢
  have hl : lv_has ls 2 [(0, .ref (α.1 1)), (1, .int p1)] := hl
  have B33 : ∀ (σ : sm_S) (y0 : Int64), mp_X1_look_33 K σ y0 → sm_J p l e (headSpec wp_X1_look { frames := 0, cells := 0, slots := 0, locals := 0 }).room s m ([.ref (α.1 1), .int p1] : List Value).toArray below meth c (MQ below (va_Ql K (sm_B sm_wX D α) A) ([.ref (α.1 1), .int p1] : List Value).toArray s 0 0 A) D A 2 (sm_wX σ α) 33 [] [.long y0] := by
    intro σ y0 hF H locs ls hP hS hl
    unfold mp_X1_look_33 at hF
    exact W.lret (v := y0) hx hb hr (fun t ht hW => ⟨⟨y0, σ, rfl, hF, (by unfold sm_B; rw [ht]; exact hP)⟩, hS.F ht⟩) hS.2.2 dX1_look_33
  have B32 : ∀ (σ : sm_S), mp_X1_look_32 K σ → sm_J p l e (headSpec wp_X1_look { frames := 0, cells := 0, slots := 0, locals := 0 }).room s m ([.ref (α.1 1), .int p1] : List Value).toArray below meth c (MQ below (va_Ql K (sm_B sm_wX D α) A) ([.ref (α.1 1), .int p1] : List Value).toArray s 0 0 A) D A 2 (sm_wX σ α) 32 [] [] := by
    intro σ hF H locs ls hP hS hl
    unfold mp_X1_look_32 at hF
    refine lv_lconst (v := 0) hx hb dX1_look_32 (by decide) ?_
    exact B33 σ 0 hF H locs ls hP hS (lv_sub hl [] rfl)
  unfold mp_X1_look at hF
  revert hP hS
  generalize hLo : ([] : List Loc) = locs
  suffices h9 : ∀ (H : Heap) (locs : List Loc), va_P D vwCl (sm_wX σ α) H → va_S A s.heap H locs → W p l e (headSpec wp_X1_look { frames := 0, cells := 0, slots := 0, locals := 0 }).room s m ([.ref (α.1 1), .int p1] : List Value).toArray below meth c H locs 0 0 (MQ below (va_Ql K (sm_B sm_wX D α) A) ([.ref (α.1 1), .int p1] : List Value).toArray s 0 0 A) (F0 m 0 ls []) from fun hP hS => h9 s.heap locs hP hS
  intro H locs hP hS
  refine lv_aload_n hx hb dX1_look_0 rfl (lv_at hl 0 rfl) ?_
  refine lv_dup hx hb dX1_look_1 rfl ?_
  refine va_get (D := D) (ci := 1) (v := .int (σ.1 13)) (C := RX1) (T := TX1) (N := 16) hx hb hts in_X1 hown hK hP 1 (sm_gX1 σ α) rfl 15 (by decide) k_0 (fun _ h9 => h9) rfl dX1_look_2 ?_
  refine lv_iconst (v := 1) hx hb dX1_look_5 (by decide) ?_
  refine lv_iadd hx hb dX1_look_6 ?_
  refine va_put (D := D) (ci := 1) (v := .int ((σ.1 13) + 1)) (ty := .int) (C := RX1) (T := TX1) (N := 16) hx hb hts in_X1 tyX1 tyX1_ok nmX1 hown hK hP (hD.to (sm_wX_m _ _)) hS 1 (sm_gX1 σ α) rfl 15 (by decide) k_0 (fun _ h9 => h9) rfl (by decide +kernel) rfl rfl (Nat.le_of_ble_eq_true rfl) dX1_look_7 (fun H locs hP _ hS => ?_)
  rw [sm_iX13] at hP
  obtain ⟨σ1, eσ1⟩ : ∃ x : sm_S, x = sm_i σ 13 ((σ.1 13) + 1) := ⟨_, rfl⟩
  replace hF := hF σ1 eσ1
  rw [← eσ1] at hP
  refine lv_iload_n hx hb dX1_look_10 rfl (lv_at hl 1 rfl) ?_
  refine lv_if_le (tgt := 32) hx hb dX1_look_11 (by decide) (fun h2 => ?_) (fun h2 => ?_)
  · replace hF := hF.1 h2
    exact B32 σ1 hF H locs ls hP hS (lv_sub hl [] rfl)
  · replace hF := hF.2 h2
    refine lv_iload_n hx hb dX1_look_14 rfl (lv_at hl 1 rfl) ?_
    refine lv_aload_n hx hb dX1_look_15 rfl (lv_at hl 0 rfl) ?_
    refine va_get (D := D) (ci := 1) (v := .ref (α.1 17)) (C := RX1) (T := TX1) (N := 16) hx hb hts in_X1 hown hK hP 1 (sm_gX1 σ1 α) rfl 2 (by decide) k_1 (fun _ h9 => h9) rfl dX1_look_16 ?_
    refine va_alen (v := nI (σ1.2.2.1 17)) hx hb hK hP 17 6 (sm_aX17 σ1 α) (sm_yX17 α) rfl dX1_look_19 ?_
    refine lv_icmp_ge (tgt := 32) hx hb dX1_look_20 (by decide) (fun h3 => ?_) (fun h3 => ?_)
    · replace hF := hF.1 h3
      exact B32 σ1 hF H locs ls hP hS (lv_sub hl [] rfl)
    · replace hF := hF.2 h3
      refine lv_aload_n hx hb dX1_look_23 rfl (lv_at hl 0 rfl) ?_
      refine va_get (D := D) (ci := 1) (v := .ref (α.1 17)) (C := RX1) (T := TX1) (N := 16) hx hb hts in_X1 hown hK hP 1 (sm_gX1 σ1 α) rfl 2 (by decide) k_1 (fun _ h9 => h9) rfl dX1_look_24 ?_
      refine lv_iload_n hx hb dX1_look_27 rfl (lv_at hl 1 rfl) ?_
      obtain ⟨h4, hF⟩ := hF
      refine va_lald (n := (σ1.2.2.1 17)) (f := (σ1.2.2.2.2 17)) hx hb hK hP 17 6 (sm_aX17 σ1 α) (sm_yX17 α) h4 dX1_look_28 ?_
      refine lv_goto (tgt := 33) hx hb dX1_look_29 (by decide) ?_
      exact B33 σ1 ((σ1.2.2.2.2 17) p1.toNatClampNeg) hF H locs ls hP hS (lv_sub hl [] rfl)
theorem dX1_put_0 : decode cX1_put 0 = .ok (.aload_n 0, 1) := by decide +kernel
theorem dX1_put_1 : decode cX1_put 1 = .ok (.dup, 1) := by decide +kernel
theorem dX1_put_2 : decode cX1_put 2 = .ok (.getfield 75, 3) := by decide +kernel
theorem dX1_put_5 : decode cX1_put 5 = .ok (.iconst 1, 1) := by decide +kernel
theorem dX1_put_6 : decode cX1_put 6 = .ok (.iadd, 1) := by decide +kernel
theorem dX1_put_7 : decode cX1_put 7 = .ok (.putfield 75, 3) := by decide +kernel
theorem dX1_put_10 : decode cX1_put 10 = .ok (.iload_n 1, 1) := by decide +kernel
theorem dX1_put_11 : decode cX1_put 11 = .ok (.ifCond .le 19, 3) := by decide +kernel
theorem dX1_put_14 : decode cX1_put 14 = .ok (.iload_n 1, 1) := by decide +kernel
theorem dX1_put_15 : decode cX1_put 15 = .ok (.aload_n 0, 1) := by decide +kernel
theorem dX1_put_16 : decode cX1_put 16 = .ok (.getfield 9, 3) := by decide +kernel
theorem dX1_put_19 : decode cX1_put 19 = .ok (.arraylength, 1) := by decide +kernel
theorem dX1_put_20 : decode cX1_put 20 = .ok (.if_icmp .ge 10, 3) := by decide +kernel
theorem dX1_put_23 : decode cX1_put 23 = .ok (.aload_n 0, 1) := by decide +kernel
theorem dX1_put_24 : decode cX1_put 24 = .ok (.getfield 9, 3) := by decide +kernel
theorem dX1_put_27 : decode cX1_put 27 = .ok (.iload_n 1, 1) := by decide +kernel
theorem dX1_put_28 : decode cX1_put 28 = .ok (.lload_n 2, 1) := by decide +kernel
theorem dX1_put_29 : decode cX1_put 29 = .ok (.lastore, 1) := by decide +kernel
theorem dX1_put_30 : decode cX1_put 30 = .ok (.return_, 1) := by decide +kernel
def wp_X1_put : List Cond := .code yX1_put cX1_put 4 none :: ([.fieldLink RX1 75 "SteadyMachine$Heap" "looks" "I", .fieldLink RX1 9 "SteadyMachine$Heap" "cells" "[J"] ++ wsX10)
theorem wq_X1_put : wp_X1_put.all goodWord = true := wa_c rfl (wa_a (by decide +kernel) uq_X1)
theorem wt_X1_put : GoodIn lw_tbl wp_X1_put := wm_c (List.mem_of_getElem? (i := 925) (by decide +kernel)) rfl (wm_a (goodIn_r _ [471, 449] (by decide +kernel) (by decide +kernel)) ut_X1)
theorem wi_X1_put_X1 : ∀ w ∈ wsX10, w ∈ wp_X1_put := fun w h => List.mem_cons_of_mem _ (List.mem_append_right _ h)
set_option maxHeartbeats 4000000 in
set_option maxRecDepth 100000 in
theorem c_X1_put (l : Launch) (D : va_G) (sz t0 : Nat) (σ : sm_S) (α : sm_A) (p1 : Int32) (p2 : Int64) (K : sm_S → Prop) (hF : mp_X1_put σ p1 p2 K) : Met l yX1_put wp_X1_put { frames := 0, cells := 0, slots := 0, locals := 0 } (sm_P sm_wX sm_tX 37 D sz t0 σ α [.ref (α.1 1), .int p1, .long p2]) (va_Qv K (sm_B sm_wX D α) (sm_a α 37 sz)) 0 0 (sm_a α 37 sz) := by
  refine Met.ofW (cc := cX1_put) (maxL := 4) (ret := none) (by decide) rfl ?_
  intro p e s m args below meth c s₁ B hml hv
  obtain ⟨rfl, hsz, hP, hK, hD0, hE⟩ := hv
  have hx := B.exec
  have hb := B.bytes
  have hr := B.returns
  have hts := atoms_spec (ws := wp_X1_put) B.pre
  have hown : s.vm.findClass RX1 = some m.cls := findClass_of_methodNamed B.named
  have hlocks := B.notSynchronized
  subst hsz
  have hD : sm_D (sm_a α 37 s.heap.size) α 37 := hD0.own
  have hA : ∀ q : Nat, s.heap.size ≤ q → sm_a α 37 s.heap.size q := fun q h => Or.inr h
  generalize hAe : sm_a α 37 s.heap.size = A at hD hA hE ⊢
  have hS : va_S A s.heap s.heap [] := va_S.rf
  have in_X1 : ∀ w ∈ wsX10, w ∈ wp_X1_put := wi_X1_put_X1
  have k_0 := hts (.fieldLink RX1 75 "SteadyMachine$Heap" "looks" "I") (by decide +kernel)
  have k_1 := hts (.fieldLink RX1 9 "SteadyMachine$Heap" "cells" "[J") (by decide +kernel)
  have hl := lv_entry ([.ref (α.1 1), .int p1, .long p2]) (n := 4) (Nat.le_of_ble_eq_true rfl)
  rw [lg_entry_eq]
  generalize (lg_sl ([.ref (α.1 1), .int p1, .long p2]) ++ List.replicate (4 - (lg_sl ([.ref (α.1 1), .int p1, .long p2])).length) Slot.unset).toArray = ls at hl ⊢
  have hl : lv_has ls 4 [(0, .ref (α.1 1)), (1, .int p1), (2, .long p2)] := hl
  have B30 : ∀ (σ : sm_S), mp_X1_put_30 K σ → sm_J p l e (headSpec wp_X1_put { frames := 0, cells := 0, slots := 0, locals := 0 }).room s m ([.ref (α.1 1), .int p1, .long p2] : List Value).toArray below meth c (MQ below (va_Qv K (sm_B sm_wX D α) A) ([.ref (α.1 1), .int p1, .long p2] : List Value).toArray s 0 0 A) D A 4 (sm_wX σ α) 30 [] [] := by
    intro σ hF H locs ls hP hS hl
    unfold mp_X1_put_30 at hF
    exact W.vret hx hb hr (fun t ht hW => ⟨⟨σ, rfl, hF, (by unfold sm_B; rw [ht]; exact hP)⟩, hS.F ht⟩) hS.2.2 dX1_put_30
  unfold mp_X1_put at hF
  revert hP hS
  generalize hLo : ([] : List Loc) = locs
  suffices h9 : ∀ (H : Heap) (locs : List Loc), va_P D vwCl (sm_wX σ α) H → va_S A s.heap H locs → W p l e (headSpec wp_X1_put { frames := 0, cells := 0, slots := 0, locals := 0 }).room s m ([.ref (α.1 1), .int p1, .long p2] : List Value).toArray below meth c H locs 0 0 (MQ below (va_Qv K (sm_B sm_wX D α) A) ([.ref (α.1 1), .int p1, .long p2] : List Value).toArray s 0 0 A) (F0 m 0 ls []) from fun hP hS => h9 s.heap locs hP hS
  intro H locs hP hS
  refine lv_aload_n hx hb dX1_put_0 rfl (lv_at hl 0 rfl) ?_
  refine lv_dup hx hb dX1_put_1 rfl ?_
  refine va_get (D := D) (ci := 1) (v := .int (σ.1 13)) (C := RX1) (T := TX1) (N := 16) hx hb hts in_X1 hown hK hP 1 (sm_gX1 σ α) rfl 15 (by decide) k_0 (fun _ h9 => h9) rfl dX1_put_2 ?_
  refine lv_iconst (v := 1) hx hb dX1_put_5 (by decide) ?_
  refine lv_iadd hx hb dX1_put_6 ?_
  refine va_put (D := D) (ci := 1) (v := .int ((σ.1 13) + 1)) (ty := .int) (C := RX1) (T := TX1) (N := 16) hx hb hts in_X1 tyX1 tyX1_ok nmX1 hown hK hP (hD.to (sm_wX_m _ _)) hS 1 (sm_gX1 σ α) rfl 15 (by decide) k_0 (fun _ h9 => h9) rfl (by decide +kernel) rfl rfl (Nat.le_of_ble_eq_true rfl) dX1_put_7 (fun H locs hP _ hS => ?_)
  rw [sm_iX13] at hP
  obtain ⟨σ1, eσ1⟩ : ∃ x : sm_S, x = sm_i σ 13 ((σ.1 13) + 1) := ⟨_, rfl⟩
  replace hF := hF σ1 eσ1
  rw [← eσ1] at hP
  refine lv_iload_n hx hb dX1_put_10 rfl (lv_at hl 1 rfl) ?_
  refine lv_if_le (tgt := 30) hx hb dX1_put_11 (by decide) (fun h2 => ?_) (fun h2 => ?_)
  · replace hF := hF.1 h2
    exact B30 σ1 hF H locs ls hP hS (lv_sub hl [] rfl)
  · replace hF := hF.2 h2
    refine lv_iload_n hx hb dX1_put_14 rfl (lv_at hl 1 rfl) ?_
    refine lv_aload_n hx hb dX1_put_15 rfl (lv_at hl 0 rfl) ?_
    refine va_get (D := D) (ci := 1) (v := .ref (α.1 17)) (C := RX1) (T := TX1) (N := 16) hx hb hts in_X1 hown hK hP 1 (sm_gX1 σ1 α) rfl 2 (by decide) k_1 (fun _ h9 => h9) rfl dX1_put_16 ?_
    refine va_alen (v := nI (σ1.2.2.1 17)) hx hb hK hP 17 6 (sm_aX17 σ1 α) (sm_yX17 α) rfl dX1_put_19 ?_
    refine lv_icmp_ge (tgt := 30) hx hb dX1_put_20 (by decide) (fun h3 => ?_) (fun h3 => ?_)
    · replace hF := hF.1 h3
      exact B30 σ1 hF H locs ls hP hS (lv_sub hl [] rfl)
    · replace hF := hF.2 h3
      refine lv_aload_n hx hb dX1_put_23 rfl (lv_at hl 0 rfl) ?_
      refine va_get (D := D) (ci := 1) (v := .ref (α.1 17)) (C := RX1) (T := TX1) (N := 16) hx hb hts in_X1 hown hK hP 1 (sm_gX1 σ1 α) rfl 2 (by decide) k_1 (fun _ h9 => h9) rfl dX1_put_24 ?_
      refine lv_iload_n hx hb dX1_put_27 rfl (lv_at hl 1 rfl) ?_
      refine lv_lload_n hx hb dX1_put_28 rfl (lv_at hl 2 rfl) ?_
      obtain ⟨h4, hF⟩ := hF
      refine va_last (n := (σ1.2.2.1 17)) (f := (σ1.2.2.2.2 17)) (x := p2) hx hb hK hP (hD.to (sm_wX_m _ _)) hS 17 6 (sm_aX17 σ1 α) (sm_yX17 α) h4 dX1_put_29 (fun H locs hP _ hS => ?_)
      rw [sm_rX17] at hP
      obtain ⟨σ5, eσ5⟩ : ∃ x : sm_S, x = sm_q σ1 17 (vp_updL (σ1.2.2.2.2 17) p1.toNatClampNeg p2) := ⟨_, rfl⟩
      replace hF := hF σ5 eσ5
      rw [← eσ5] at hP
      exact B30 σ5 hF H locs ls hP hS (lv_sub hl [] rfl)
theorem dX1_leadsBack_0 : decode cX1_leadsBack 0 = .ok (.lload_n 1, 1) := by decide +kernel
theorem dX1_leadsBack_1 : decode cX1_leadsBack 1 = .ok (.l2i, 1) := by decide +kernel
theorem dX1_leadsBack_2 : decode cX1_leadsBack 2 = .ok (.istore_n 3, 1) := by decide +kernel
theorem dX1_leadsBack_3 : decode cX1_leadsBack 3 = .ok (.lload_n 1, 1) := by decide +kernel
theorem dX1_leadsBack_4 : decode cX1_leadsBack 4 = .ok (.bipush 32, 2) := by decide +kernel
theorem dX1_leadsBack_6 : decode cX1_leadsBack 6 = .ok (.lshr, 1) := by decide +kernel
theorem dX1_leadsBack_7 : decode cX1_leadsBack 7 = .ok (.lconst 1, 1) := by decide +kernel
theorem dX1_leadsBack_8 : decode cX1_leadsBack 8 = .ok (.lcmp, 1) := by decide +kernel
theorem dX1_leadsBack_9 : decode cX1_leadsBack 9 = .ok (.ifCond .ne 32, 3) := by decide +kernel
theorem dX1_leadsBack_12 : decode cX1_leadsBack 12 = .ok (.iload_n 3, 1) := by decide +kernel
theorem dX1_leadsBack_13 : decode cX1_leadsBack 13 = .ok (.ifCond .eq 28, 3) := by decide +kernel
theorem dX1_leadsBack_16 : decode cX1_leadsBack 16 = .ok (.iload_n 3, 1) := by decide +kernel
theorem dX1_leadsBack_17 : decode cX1_leadsBack 17 = .ok (.aload_n 0, 1) := by decide +kernel
theorem dX1_leadsBack_18 : decode cX1_leadsBack 18 = .ok (.getfield 56, 3) := by decide +kernel
theorem dX1_leadsBack_21 : decode cX1_leadsBack 21 = .ok (.if_icmp .lt 16, 3) := by decide +kernel
theorem dX1_leadsBack_24 : decode cX1_leadsBack 24 = .ok (.iload_n 3, 1) := by decide +kernel
theorem dX1_leadsBack_25 : decode cX1_leadsBack 25 = .ok (.aload_n 0, 1) := by decide +kernel
theorem dX1_leadsBack_26 : decode cX1_leadsBack 26 = .ok (.getfield 56, 3) := by decide +kernel
theorem dX1_leadsBack_29 : decode cX1_leadsBack 29 = .ok (.aload_n 0, 1) := by decide +kernel
theorem dX1_leadsBack_30 : decode cX1_leadsBack 30 = .ok (.getfield 23, 3) := by decide +kernel
theorem dX1_leadsBack_33 : decode cX1_leadsBack 33 = .ok (.iadd, 1) := by decide +kernel
theorem dX1_leadsBack_34 : decode cX1_leadsBack 34 = .ok (.if_icmp .lt 7, 3) := by decide +kernel
theorem dX1_leadsBack_37 : decode cX1_leadsBack 37 = .ok (.iconst 1, 1) := by decide +kernel
theorem dX1_leadsBack_38 : decode cX1_leadsBack 38 = .ok (.goto 4, 3) := by decide +kernel
theorem dX1_leadsBack_41 : decode cX1_leadsBack 41 = .ok (.iconst 0, 1) := by decide +kernel
theorem dX1_leadsBack_42 : decode cX1_leadsBack 42 = .ok (.ireturn, 1) := by decide +kernel
def wp_X1_leadsBack : List Cond := .code yX1_leadsBack cX1_leadsBack 4 (some .boolean) :: ([.fieldLink RX1 56 "SteadyMachine$Heap" "base" "I", .fieldLink RX1 23 "SteadyMachine$Heap" "half" "I"] ++ wsX10)
theorem wq_X1_leadsBack : wp_X1_leadsBack.all goodWord = true := wa_c rfl (wa_a (by decide +kernel) uq_X1)
theorem wt_X1_leadsBack : GoodIn lw_tbl wp_X1_leadsBack := wm_c (List.mem_of_getElem? (i := 917) (by decide +kernel)) rfl (wm_a (goodIn_r _ [451, 450] (by decide +kernel) (by decide +kernel)) ut_X1)
theorem wi_X1_leadsBack_X1 : ∀ w ∈ wsX10, w ∈ wp_X1_leadsBack := fun w h => List.mem_cons_of_mem _ (List.mem_append_right _ h)
set_option maxHeartbeats 4000000 in
set_option maxRecDepth 100000 in
theorem c_X1_leadsBack (l : Launch) (D : va_G) (sz t0 : Nat) (σ : sm_S) (α : sm_A) (p1 : Int64) (K : Int32 → sm_S → Prop) (hF : mp_X1_leadsBack σ p1 K) : Met l yX1_leadsBack wp_X1_leadsBack { frames := 0, cells := 0, slots := 0, locals := 0 } (sm_P sm_wX sm_tX 37 D sz t0 σ α [.ref (α.1 1), .long p1]) (va_Qi K (sm_B sm_wX D α) (sm_a α 37 sz)) 0 0 (sm_a α 37 sz) := by
  refine Met.ofW (cc := cX1_leadsBack) (maxL := 4) (ret := (some .boolean)) (by decide) rfl ?_
  intro p e s m args below meth c s₁ B hml hv
  obtain ⟨rfl, hsz, hP, hK, hD0, hE⟩ := hv
  have hx := B.exec
  have hb := B.bytes
  have hr := B.returns
  have hts := atoms_spec (ws := wp_X1_leadsBack) B.pre
  have hown : s.vm.findClass RX1 = some m.cls := findClass_of_methodNamed B.named
  have hlocks := B.notSynchronized
  subst hsz
  have hD : sm_D (sm_a α 37 s.heap.size) α 37 := hD0.own
  have hA : ∀ q : Nat, s.heap.size ≤ q → sm_a α 37 s.heap.size q := fun q h => Or.inr h
  generalize hAe : sm_a α 37 s.heap.size = A at hD hA hE ⊢
  have hS : va_S A s.heap s.heap [] := va_S.rf
  have in_X1 : ∀ w ∈ wsX10, w ∈ wp_X1_leadsBack := wi_X1_leadsBack_X1
  have k_0 := hts (.fieldLink RX1 56 "SteadyMachine$Heap" "base" "I") (by decide +kernel)
  have k_1 := hts (.fieldLink RX1 23 "SteadyMachine$Heap" "half" "I") (by decide +kernel)
  have hl := lv_entry ([.ref (α.1 1), .long p1]) (n := 4) (Nat.le_of_ble_eq_true rfl)
  rw [lg_entry_eq]
  generalize (lg_sl ([.ref (α.1 1), .long p1]) ++ List.replicate (4 - (lg_sl ([.ref (α.1 1), .long p1])).length) Slot.unset).toArray = ls at hl ⊢
  have hl : lv_has ls 4 [(0, .ref (α.1 1)), (1, .long p1)] := hl
  have B42 : ∀ (σ : sm_S) (y0 : Int32), mp_X1_leadsBack_42 K σ y0 → sm_J p l e (headSpec wp_X1_leadsBack { frames := 0, cells := 0, slots := 0, locals := 0 }).room s m ([.ref (α.1 1), .long p1] : List Value).toArray below meth c (MQ below (va_Qi K (sm_B sm_wX D α) A) ([.ref (α.1 1), .long p1] : List Value).toArray s 0 0 A) D A 4 (sm_wX σ α) 42 [] [.int y0] := by
    intro σ y0 hF H locs ls hP hS hl
    unfold mp_X1_leadsBack_42 at hF
    obtain ⟨h1, hF⟩ := hF
    exact W.zret (v := y0) hx hb hr h1.1 (fun t ht hW => ⟨⟨y0, σ, rfl, hF, (by unfold sm_B; rw [ht]; exact hP)⟩, hS.F ht⟩) hS.2.2 dX1_leadsBack_42
  have B41 : ∀ (σ : sm_S), mp_X1_leadsBack_41 K σ → sm_J p l e (headSpec wp_X1_leadsBack { frames := 0, cells := 0, slots := 0, locals := 0 }).room s m ([.ref (α.1 1), .long p1] : List Value).toArray below meth c (MQ below (va_Qi K (sm_B sm_wX D α) A) ([.ref (α.1 1), .long p1] : List Value).toArray s 0 0 A) D A 4 (sm_wX σ α) 41 [] [] := by
    intro σ hF H locs ls hP hS hl
    unfold mp_X1_leadsBack_41 at hF
    refine lv_iconst (v := 0) hx hb dX1_leadsBack_41 (by decide) ?_
    exact B42 σ 0 hF H locs ls hP hS (lv_sub hl [] rfl)
  have B37 : ∀ (σ : sm_S), mp_X1_leadsBack_37 K σ → sm_J p l e (headSpec wp_X1_leadsBack { frames := 0, cells := 0, slots := 0, locals := 0 }).room s m ([.ref (α.1 1), .long p1] : List Value).toArray below meth c (MQ below (va_Qi K (sm_B sm_wX D α) A) ([.ref (α.1 1), .long p1] : List Value).toArray s 0 0 A) D A 4 (sm_wX σ α) 37 [] [] := by
    intro σ hF H locs ls hP hS hl
    unfold mp_X1_leadsBack_37 at hF
    refine lv_iconst (v := 1) hx hb dX1_leadsBack_37 (by decide) ?_
    refine lv_goto (tgt := 42) hx hb dX1_leadsBack_38 (by decide) ?_
    exact B42 σ 1 hF H locs ls hP hS (lv_sub hl [] rfl)
  unfold mp_X1_leadsBack at hF
  revert hP hS
  generalize hLo : ([] : List Loc) = locs
  suffices h9 : ∀ (H : Heap) (locs : List Loc), va_P D vwCl (sm_wX σ α) H → va_S A s.heap H locs → W p l e (headSpec wp_X1_leadsBack { frames := 0, cells := 0, slots := 0, locals := 0 }).room s m ([.ref (α.1 1), .long p1] : List Value).toArray below meth c H locs 0 0 (MQ below (va_Qi K (sm_B sm_wX D α) A) ([.ref (α.1 1), .long p1] : List Value).toArray s 0 0 A) (F0 m 0 ls []) from fun hP hS => h9 s.heap locs hP hS
  intro H locs hP hS
  refine lv_lload_n hx hb dX1_leadsBack_0 rfl (lv_at hl 1 rfl) ?_
  refine lv_l2i hx hb dX1_leadsBack_1 rfl ?_
  refine lv_istore_n (lv' := [(3, .int p1.toInt32), (0, .ref (α.1 1)), (1, .long p1)]) hx hb dX1_leadsBack_2 rfl hl (by decide) rfl (fun ls hl => ?_)
  refine lv_lload_n hx hb dX1_leadsBack_3 rfl (lv_at hl 2 rfl) ?_
  refine lv_bipush (v := 32) hx hb dX1_leadsBack_4 (by decide) ?_
  refine lv_lshr hx hb dX1_leadsBack_6 rfl ?_
  refine lv_lconst (v := 1) hx hb dX1_leadsBack_7 (by decide) ?_
  refine W.lcmp hx hb dX1_leadsBack_8 ?_
  refine lv_if_ne (tgt := 41) hx hb dX1_leadsBack_9 (by decide) (fun h2 => ?_) (fun h2 => ?_)
  · replace hF := hF.1 h2
    exact B41 σ hF H locs ls hP hS (lv_sub hl [] rfl)
  · replace hF := hF.2 h2
    refine lv_iload_n hx hb dX1_leadsBack_12 rfl (lv_at hl 0 rfl) ?_
    refine lv_if_eq (tgt := 41) hx hb dX1_leadsBack_13 (by decide) (fun h3 => ?_) (fun h3 => ?_)
    · replace hF := hF.1 h3
      exact B41 σ hF H locs ls hP hS (lv_sub hl [] rfl)
    · replace hF := hF.2 h3
      refine lv_iload_n hx hb dX1_leadsBack_16 rfl (lv_at hl 0 rfl) ?_
      refine lv_aload_n hx hb dX1_leadsBack_17 rfl (lv_at hl 1 rfl) ?_
      refine va_get (D := D) (ci := 1) (v := .int (σ.1 2)) (C := RX1) (T := TX1) (N := 16) hx hb hts in_X1 hown hK hP 1 (sm_gX1 σ α) rfl 4 (by decide) k_0 (fun _ h9 => h9) rfl dX1_leadsBack_18 ?_
      refine lv_icmp_lt (tgt := 37) hx hb dX1_leadsBack_21 (by decide) (fun h4 => ?_) (fun h4 => ?_)
      · replace hF := hF.1 h4
        exact B37 σ hF H locs ls hP hS (lv_sub hl [] rfl)
      · replace hF := hF.2 h4
        refine lv_iload_n hx hb dX1_leadsBack_24 rfl (lv_at hl 0 rfl) ?_
        refine lv_aload_n hx hb dX1_leadsBack_25 rfl (lv_at hl 1 rfl) ?_
        refine va_get (D := D) (ci := 1) (v := .int (σ.1 2)) (C := RX1) (T := TX1) (N := 16) hx hb hts in_X1 hown hK hP 1 (sm_gX1 σ α) rfl 4 (by decide) k_0 (fun _ h9 => h9) rfl dX1_leadsBack_26 ?_
        refine lv_aload_n hx hb dX1_leadsBack_29 rfl (lv_at hl 1 rfl) ?_
        refine va_get (D := D) (ci := 1) (v := .int (σ.1 1)) (C := RX1) (T := TX1) (N := 16) hx hb hts in_X1 hown hK hP 1 (sm_gX1 σ α) rfl 3 (by decide) k_1 (fun _ h9 => h9) rfl dX1_leadsBack_30 ?_
        refine lv_iadd hx hb dX1_leadsBack_33 ?_
        refine lv_icmp_lt (tgt := 41) hx hb dX1_leadsBack_34 (by decide) (fun h5 => ?_) (fun h5 => ?_)
        · replace hF := hF.1 h5
          exact B41 σ hF H locs ls hP hS (lv_sub hl [] rfl)
        · replace hF := hF.2 h5
          exact B37 σ hF H locs ls hP hS (lv_sub hl [] rfl)
theorem dX1_move_0 : decode cX1_move 0 = .ok (.iload_n 1, 1) := by decide +kernel
theorem dX1_move_1 : decode cX1_move 1 = .ok (.iconst 1, 1) := by decide +kernel
theorem dX1_move_2 : decode cX1_move 2 = .ok (.if_icmp .lt 12, 3) := by decide +kernel
theorem dX1_move_5 : decode cX1_move 5 = .ok (.iload_n 1, 1) := by decide +kernel
theorem dX1_move_6 : decode cX1_move 6 = .ok (.aload_n 0, 1) := by decide +kernel
theorem dX1_move_7 : decode cX1_move 7 = .ok (.getfield 9, 3) := by decide +kernel
theorem dX1_move_10 : decode cX1_move 10 = .ok (.arraylength, 1) := by decide +kernel
theorem dX1_move_11 : decode cX1_move 11 = .ok (.if_icmp .lt 5, 3) := by decide +kernel
theorem dX1_move_14 : decode cX1_move 14 = .ok (.iconst 0, 1) := by decide +kernel
theorem dX1_move_15 : decode cX1_move 15 = .ok (.ireturn, 1) := by decide +kernel
theorem dX1_move_16 : decode cX1_move 16 = .ok (.aload_n 0, 1) := by decide +kernel
theorem dX1_move_17 : decode cX1_move 17 = .ok (.dup, 1) := by decide +kernel
theorem dX1_move_18 : decode cX1_move 18 = .ok (.getfield 75, 3) := by decide +kernel
theorem dX1_move_21 : decode cX1_move 21 = .ok (.iconst 1, 1) := by decide +kernel
theorem dX1_move_22 : decode cX1_move 22 = .ok (.iadd, 1) := by decide +kernel
theorem dX1_move_23 : decode cX1_move 23 = .ok (.putfield 75, 3) := by decide +kernel
theorem dX1_move_26 : decode cX1_move 26 = .ok (.aload_n 0, 1) := by decide +kernel
theorem dX1_move_27 : decode cX1_move 27 = .ok (.getfield 9, 3) := by decide +kernel
theorem dX1_move_30 : decode cX1_move 30 = .ok (.iload_n 1, 1) := by decide +kernel
theorem dX1_move_31 : decode cX1_move 31 = .ok (.laload, 1) := by decide +kernel
theorem dX1_move_32 : decode cX1_move 32 = .ok (.bipush 32, 2) := by decide +kernel
theorem dX1_move_34 : decode cX1_move 34 = .ok (.lshr, 1) := by decide +kernel
theorem dX1_move_35 : decode cX1_move 35 = .ok (.l2i, 1) := by decide +kernel
theorem dX1_move_36 : decode cX1_move 36 = .ok (.istore_n 2, 1) := by decide +kernel
theorem dX1_move_37 : decode cX1_move 37 = .ok (.aload_n 0, 1) := by decide +kernel
theorem dX1_move_38 : decode cX1_move 38 = .ok (.getfield 9, 3) := by decide +kernel
theorem dX1_move_41 : decode cX1_move 41 = .ok (.iload_n 1, 1) := by decide +kernel
theorem dX1_move_42 : decode cX1_move 42 = .ok (.laload, 1) := by decide +kernel
theorem dX1_move_43 : decode cX1_move 43 = .ok (.l2i, 1) := by decide +kernel
theorem dX1_move_44 : decode cX1_move 44 = .ok (.istore_n 3, 1) := by decide +kernel
theorem dX1_move_45 : decode cX1_move 45 = .ok (.iload_n 2, 1) := by decide +kernel
theorem dX1_move_46 : decode cX1_move 46 = .ok (.bipush 6, 2) := by decide +kernel
theorem dX1_move_48 : decode cX1_move 48 = .ok (.if_icmp .ne 5, 3) := by decide +kernel
theorem dX1_move_51 : decode cX1_move 51 = .ok (.iload_n 3, 1) := by decide +kernel
theorem dX1_move_52 : decode cX1_move 52 = .ok (.ireturn, 1) := by decide +kernel
theorem dX1_move_53 : decode cX1_move 53 = .ok (.iload_n 2, 1) := by decide +kernel
theorem dX1_move_54 : decode cX1_move 54 = .ok (.iconst 2, 1) := by decide +kernel
theorem dX1_move_55 : decode cX1_move 55 = .ok (.if_icmp .ne 17, 3) := by decide +kernel
theorem dX1_move_58 : decode cX1_move 58 = .ok (.iconst 1, 1) := by decide +kernel
theorem dX1_move_59 : decode cX1_move 59 = .ok (.aload_n 0, 1) := by decide +kernel
theorem dX1_move_60 : decode cX1_move 60 = .ok (.getfield 13, 3) := by decide +kernel
theorem dX1_move_63 : decode cX1_move 63 = .ok (.getfield 101, 3) := by decide +kernel
theorem dX1_move_66 : decode cX1_move 66 = .ok (.iload_n 3, 1) := by decide +kernel
theorem dX1_move_67 : decode cX1_move 67 = .ok (.iaload, 1) := by decide +kernel
theorem dX1_move_68 : decode cX1_move 68 = .ok (.iadd, 1) := by decide +kernel
theorem dX1_move_69 : decode cX1_move 69 = .ok (.goto 5, 3) := by decide +kernel
theorem dX1_move_72 : decode cX1_move 72 = .ok (.bipush 16, 2) := by decide +kernel
theorem dX1_move_74 : decode cX1_move 74 = .ok (.istore 4, 2) := by decide +kernel
theorem dX1_move_76 : decode cX1_move 76 = .ok (.aload_n 0, 1) := by decide +kernel
theorem dX1_move_77 : decode cX1_move 77 = .ok (.getfield 59, 3) := by decide +kernel
theorem dX1_move_80 : decode cX1_move 80 = .ok (.istore 5, 2) := by decide +kernel
theorem dX1_move_82 : decode cX1_move 82 = .ok (.iload_n 1, 1) := by decide +kernel
theorem dX1_move_83 : decode cX1_move 83 = .ok (.iload 4, 2) := by decide +kernel
theorem dX1_move_85 : decode cX1_move 85 = .ok (.iadd, 1) := by decide +kernel
theorem dX1_move_86 : decode cX1_move 86 = .ok (.aload_n 0, 1) := by decide +kernel
theorem dX1_move_87 : decode cX1_move 87 = .ok (.getfield 9, 3) := by decide +kernel
theorem dX1_move_90 : decode cX1_move 90 = .ok (.arraylength, 1) := by decide +kernel
theorem dX1_move_91 : decode cX1_move 91 = .ok (.if_icmp .gt 16, 3) := by decide +kernel
theorem dX1_move_94 : decode cX1_move 94 = .ok (.iload 5, 2) := by decide +kernel
theorem dX1_move_96 : decode cX1_move 96 = .ok (.iload 4, 2) := by decide +kernel
theorem dX1_move_98 : decode cX1_move 98 = .ok (.iadd, 1) := by decide +kernel
theorem dX1_move_99 : decode cX1_move 99 = .ok (.aload_n 0, 1) := by decide +kernel
theorem dX1_move_100 : decode cX1_move 100 = .ok (.getfield 9, 3) := by decide +kernel
theorem dX1_move_103 : decode cX1_move 103 = .ok (.arraylength, 1) := by decide +kernel
theorem dX1_move_104 : decode cX1_move 104 = .ok (.if_icmp .le 5, 3) := by decide +kernel
theorem dX1_move_107 : decode cX1_move 107 = .ok (.iconst 0, 1) := by decide +kernel
theorem dX1_move_108 : decode cX1_move 108 = .ok (.ireturn, 1) := by decide +kernel
theorem dX1_move_109 : decode cX1_move 109 = .ok (.iload_n 2, 1) := by decide +kernel
theorem dX1_move_110 : decode cX1_move 110 = .ok (.iconst 5, 1) := by decide +kernel
theorem dX1_move_111 : decode cX1_move 111 = .ok (.if_icmp .ne 27, 3) := by decide +kernel
theorem dX1_move_114 : decode cX1_move 114 = .ok (.iconst 4, 1) := by decide +kernel
theorem dX1_move_115 : decode cX1_move 115 = .ok (.aload_n 0, 1) := by decide +kernel
theorem dX1_move_116 : decode cX1_move 116 = .ok (.getfield 17, 3) := by decide +kernel
theorem dX1_move_119 : decode cX1_move 119 = .ok (.getfield 107, 3) := by decide +kernel
theorem dX1_move_122 : decode cX1_move 122 = .ok (.iload_n 3, 1) := by decide +kernel
theorem dX1_move_123 : decode cX1_move 123 = .ok (.iaload, 1) := by decide +kernel
theorem dX1_move_124 : decode cX1_move 124 = .ok (.iadd, 1) := by decide +kernel
theorem dX1_move_125 : decode cX1_move 125 = .ok (.aload_n 0, 1) := by decide +kernel
theorem dX1_move_126 : decode cX1_move 126 = .ok (.getfield 9, 3) := by decide +kernel
theorem dX1_move_129 : decode cX1_move 129 = .ok (.iload_n 1, 1) := by decide +kernel
theorem dX1_move_130 : decode cX1_move 130 = .ok (.iconst 2, 1) := by decide +kernel
theorem dX1_move_131 : decode cX1_move 131 = .ok (.iadd, 1) := by decide +kernel
theorem dX1_move_132 : decode cX1_move 132 = .ok (.laload, 1) := by decide +kernel
theorem dX1_move_133 : decode cX1_move 133 = .ok (.l2i, 1) := by decide +kernel
theorem dX1_move_134 : decode cX1_move 134 = .ok (.iadd, 1) := by decide +kernel
theorem dX1_move_135 : decode cX1_move 135 = .ok (.goto 5, 3) := by decide +kernel
theorem dX1_move_138 : decode cX1_move 138 = .ok (.iload 4, 2) := by decide +kernel
theorem dX1_move_140 : decode cX1_move 140 = .ok (.istore 6, 2) := by decide +kernel
theorem dX1_move_142 : decode cX1_move 142 = .ok (.iconst 0, 1) := by decide +kernel
theorem dX1_move_143 : decode cX1_move 143 = .ok (.istore 7, 2) := by decide +kernel
theorem dX1_move_145 : decode cX1_move 145 = .ok (.iload 7, 2) := by decide +kernel
theorem dX1_move_147 : decode cX1_move 147 = .ok (.iload 4, 2) := by decide +kernel
theorem dX1_move_149 : decode cX1_move 149 = .ok (.if_icmp .ge 39, 3) := by decide +kernel
theorem dX1_move_152 : decode cX1_move 152 = .ok (.aload_n 0, 1) := by decide +kernel
theorem dX1_move_153 : decode cX1_move 153 = .ok (.getfield 9, 3) := by decide +kernel
theorem dX1_move_156 : decode cX1_move 156 = .ok (.iload 5, 2) := by decide +kernel
theorem dX1_move_158 : decode cX1_move 158 = .ok (.iload 7, 2) := by decide +kernel
theorem dX1_move_160 : decode cX1_move 160 = .ok (.iadd, 1) := by decide +kernel
theorem dX1_move_161 : decode cX1_move 161 = .ok (.iload 7, 2) := by decide +kernel
theorem dX1_move_163 : decode cX1_move 163 = .ok (.iload 6, 2) := by decide +kernel
theorem dX1_move_165 : decode cX1_move 165 = .ok (.if_icmp .ge 15, 3) := by decide +kernel
theorem dX1_move_168 : decode cX1_move 168 = .ok (.aload_n 0, 1) := by decide +kernel
theorem dX1_move_169 : decode cX1_move 169 = .ok (.getfield 9, 3) := by decide +kernel
theorem dX1_move_172 : decode cX1_move 172 = .ok (.iload_n 1, 1) := by decide +kernel
theorem dX1_move_173 : decode cX1_move 173 = .ok (.iload 7, 2) := by decide +kernel
theorem dX1_move_175 : decode cX1_move 175 = .ok (.iadd, 1) := by decide +kernel
theorem dX1_move_176 : decode cX1_move 176 = .ok (.laload, 1) := by decide +kernel
theorem dX1_move_177 : decode cX1_move 177 = .ok (.goto 4, 3) := by decide +kernel
theorem dX1_move_180 : decode cX1_move 180 = .ok (.lconst 0, 1) := by decide +kernel
theorem dX1_move_181 : decode cX1_move 181 = .ok (.lastore, 1) := by decide +kernel
theorem dX1_move_182 : decode cX1_move 182 = .ok (.iinc 7 1, 3) := by decide +kernel
theorem dX1_move_185 : decode cX1_move 185 = .ok (.goto (-40), 3) := by decide +kernel
theorem dX1_move_188 : decode cX1_move 188 = .ok (.aload_n 0, 1) := by decide +kernel
theorem dX1_move_189 : decode cX1_move 189 = .ok (.getfield 9, 3) := by decide +kernel
theorem dX1_move_192 : decode cX1_move 192 = .ok (.iload_n 1, 1) := by decide +kernel
theorem dX1_move_193 : decode cX1_move 193 = .ok (.ldc2_w 112, 3) := by decide +kernel
theorem dX1_move_196 : decode cX1_move 196 = .ok (.iload 5, 2) := by decide +kernel
theorem dX1_move_198 : decode cX1_move 198 = .ok (.i2l, 1) := by decide +kernel
theorem dX1_move_199 : decode cX1_move 199 = .ok (.lor, 1) := by decide +kernel
theorem dX1_move_200 : decode cX1_move 200 = .ok (.lastore, 1) := by decide +kernel
theorem dX1_move_201 : decode cX1_move 201 = .ok (.aload_n 0, 1) := by decide +kernel
theorem dX1_move_202 : decode cX1_move 202 = .ok (.dup, 1) := by decide +kernel
theorem dX1_move_203 : decode cX1_move 203 = .ok (.getfield 75, 3) := by decide +kernel
theorem dX1_move_206 : decode cX1_move 206 = .ok (.iconst 2, 1) := by decide +kernel
theorem dX1_move_207 : decode cX1_move 207 = .ok (.iload 4, 2) := by decide +kernel
theorem dX1_move_209 : decode cX1_move 209 = .ok (.imul, 1) := by decide +kernel
theorem dX1_move_210 : decode cX1_move 210 = .ok (.iconst 1, 1) := by decide +kernel
theorem dX1_move_211 : decode cX1_move 211 = .ok (.iadd, 1) := by decide +kernel
theorem dX1_move_212 : decode cX1_move 212 = .ok (.iadd, 1) := by decide +kernel
theorem dX1_move_213 : decode cX1_move 213 = .ok (.putfield 75, 3) := by decide +kernel
theorem dX1_move_216 : decode cX1_move 216 = .ok (.aload_n 0, 1) := by decide +kernel
theorem dX1_move_217 : decode cX1_move 217 = .ok (.dup, 1) := by decide +kernel
theorem dX1_move_218 : decode cX1_move 218 = .ok (.getfield 59, 3) := by decide +kernel
theorem dX1_move_221 : decode cX1_move 221 = .ok (.iload 4, 2) := by decide +kernel
theorem dX1_move_223 : decode cX1_move 223 = .ok (.iadd, 1) := by decide +kernel
theorem dX1_move_224 : decode cX1_move 224 = .ok (.putfield 59, 3) := by decide +kernel
theorem dX1_move_227 : decode cX1_move 227 = .ok (.iload 5, 2) := by decide +kernel
theorem dX1_move_229 : decode cX1_move 229 = .ok (.ireturn, 1) := by decide +kernel
def wp_X1_move : List Cond := .code yX1_move cX1_move 8 (some .int) :: ((([.fieldLink RX1 9 "SteadyMachine$Heap" "cells" "[J", .constantLong RX1 112 (25769803776), .fieldLink RX1 75 "SteadyMachine$Heap" "looks" "I", .fieldLink RX1 59 "SteadyMachine$Heap" "free" "I", .fieldLink RX1 17 "SteadyMachine$Heap" "methods" "LSteadyMachine$Methods;", .fieldLink RX1 107 "SteadyMachine$Methods" "locals" "[I", .fieldLink RX1 13 "SteadyMachine$Heap" "classes" "LSteadyMachine$Classes;", .fieldLink RX1 101 "SteadyMachine$Classes" "fields" "[I"] ++ wsX00) ++ wsX10) ++ wsX40)
theorem wq_X1_move : wp_X1_move.all goodWord = true := wa_c rfl (wa_a (wa_a (wa_a (by decide +kernel) uq_X0) uq_X1) uq_X4)
theorem wt_X1_move : GoodIn lw_tbl wp_X1_move := wm_c (List.mem_of_getElem? (i := 900) (by decide +kernel)) rfl (wm_a (wm_a (wm_a (goodIn_r _ [449, 901, 471, 452, 448, 243, 447, 181] (by decide +kernel) (by decide +kernel)) ut_X0) ut_X1) ut_X4)
theorem wi_X1_move_X0 : ∀ w ∈ wsX00, w ∈ wp_X1_move := fun w h => List.mem_cons_of_mem _ (List.mem_append_left _ (List.mem_append_left _ (List.mem_append_right _ h)))
theorem wi_X1_move_X1 : ∀ w ∈ wsX10, w ∈ wp_X1_move := fun w h => List.mem_cons_of_mem _ (List.mem_append_left _ (List.mem_append_right _ h))
theorem wi_X1_move_X4 : ∀ w ∈ wsX40, w ∈ wp_X1_move := fun w h => List.mem_cons_of_mem _ (List.mem_append_right _ h)
set_option maxHeartbeats 4000000 in
set_option maxRecDepth 100000 in
theorem c_X1_move (l : Launch) (D : va_G) (sz t0 : Nat) (σ : sm_S) (α : sm_A) (p1 : Int32) (K : Int32 → sm_S → Prop) (hF : mp_X1_move σ p1 K) : Met l yX1_move wp_X1_move { frames := 0, cells := 0, slots := 0, locals := 0 } (sm_P sm_wX sm_tX 37 D sz t0 σ α [.ref (α.1 1), .int p1]) (va_Qi K (sm_B sm_wX D α) (sm_a α 37 sz)) 0 0 (sm_a α 37 sz) := by
  refine Met.ofW (cc := cX1_move) (maxL := 8) (ret := (some .int)) (by decide) rfl ?_
  intro p e s m args below meth c s₁ B hml hv
  obtain ⟨rfl, hsz, hP, hK, hD0, hE⟩ := hv
  have hx := B.exec
  have hb := B.bytes
  have hr := B.returns
  have hts := atoms_spec (ws := wp_X1_move) B.pre
  have hown : s.vm.findClass RX1 = some m.cls := findClass_of_methodNamed B.named
  have hlocks := B.notSynchronized
  subst hsz
  have hD : sm_D (sm_a α 37 s.heap.size) α 37 := hD0.own
  have hA : ∀ q : Nat, s.heap.size ≤ q → sm_a α 37 s.heap.size q := fun q h => Or.inr h
  generalize hAe : sm_a α 37 s.heap.size = A at hD hA hE ⊢
  have hS : va_S A s.heap s.heap [] := va_S.rf
  have in_X0 : ∀ w ∈ wsX00, w ∈ wp_X1_move := wi_X1_move_X0
  have in_X1 : ∀ w ∈ wsX10, w ∈ wp_X1_move := wi_X1_move_X1
  have in_X4 : ∀ w ∈ wsX40, w ∈ wp_X1_move := wi_X1_move_X4
  have k_0 := hts (.fieldLink RX1 9 "SteadyMachine$Heap" "cells" "[J") (by decide +kernel)
  have k_1 := hts (.constantLong RX1 112 (25769803776)) (by decide +kernel)
  have k_2 := hts (.fieldLink RX1 75 "SteadyMachine$Heap" "looks" "I") (by decide +kernel)
  have k_3 := hts (.fieldLink RX1 59 "SteadyMachine$Heap" "free" "I") (by decide +kernel)
  have k_4 := hts (.fieldLink RX1 17 "SteadyMachine$Heap" "methods" "LSteadyMachine$Methods;") (by decide +kernel)
  have k_5 := hts (.fieldLink RX1 107 "SteadyMachine$Methods" "locals" "[I") (by decide +kernel)
  have k_6 := hts (.fieldLink RX1 13 "SteadyMachine$Heap" "classes" "LSteadyMachine$Classes;") (by decide +kernel)
  have k_7 := hts (.fieldLink RX1 101 "SteadyMachine$Classes" "fields" "[I") (by decide +kernel)
  have hl := lv_entry ([.ref (α.1 1), .int p1]) (n := 8) (Nat.le_of_ble_eq_true rfl)
  rw [lg_entry_eq]
  generalize (lg_sl ([.ref (α.1 1), .int p1]) ++ List.replicate (8 - (lg_sl ([.ref (α.1 1), .int p1])).length) Slot.unset).toArray = ls at hl ⊢
  have hl : lv_has ls 8 [(0, .ref (α.1 1)), (1, .int p1)] := hl
  have B181 : ∀ (L145 : sm_S → Int32 → Int32 → Int32 → Int32 → Int32 → Prop) (hL145 : ∀ (σ : sm_S) (x1 : Int32) (x4 : Int32) (x5 : Int32) (x6 : Int32) (x7 : Int32), L145 σ x1 x4 x5 x6 x7 → sm_J p l e (headSpec wp_X1_move { frames := 0, cells := 0, slots := 0, locals := 0 }).room s m ([.ref (α.1 1), .int p1] : List Value).toArray below meth c (MQ below (va_Qi K (sm_B sm_wX D α) A) ([.ref (α.1 1), .int p1] : List Value).toArray s 0 0 A) D A 8 (sm_wX σ α) 145 [(0, .ref (α.1 1)), (1, .int x1), (4, .int x4), (5, .int x5), (6, .int x6), (7, .int x7)] []) (σ : sm_S) (x1 : Int32) (x4 : Int32) (x5 : Int32) (x6 : Int32) (x7 : Int32) (y1 : Int32) (y2 : Int64), mp_X1_move_181 L145 K σ x1 x4 x5 x6 x7 y1 y2 → sm_J p l e (headSpec wp_X1_move { frames := 0, cells := 0, slots := 0, locals := 0 }).room s m ([.ref (α.1 1), .int p1] : List Value).toArray below meth c (MQ below (va_Qi K (sm_B sm_wX D α) A) ([.ref (α.1 1), .int p1] : List Value).toArray s 0 0 A) D A 8 (sm_wX σ α) 181 [(0, .ref (α.1 1)), (1, .int x1), (4, .int x4), (5, .int x5), (6, .int x6), (7, .int x7)] [.long y2, .int y1, .ref (α.1 17)] := by
    intro L145 hL145 σ x1 x4 x5 x6 x7 y1 y2 hF H locs ls hP hS hl
    unfold mp_X1_move_181 at hF
    obtain ⟨h1, hF⟩ := hF
    refine va_last (n := (σ.2.2.1 17)) (f := (σ.2.2.2.2 17)) (x := y2) hx hb hK hP (hD.to (sm_wX_m _ _)) hS 17 6 (sm_aX17 σ α) (sm_yX17 α) h1 dX1_move_181 (fun H locs hP _ hS => ?_)
    rw [sm_rX17] at hP
    obtain ⟨σ2, eσ2⟩ : ∃ x : sm_S, x = sm_q σ 17 (vp_updL (σ.2.2.2.2 17) y1.toNatClampNeg y2) := ⟨_, rfl⟩
    replace hF := hF σ2 eσ2
    rw [← eσ2] at hP
    obtain ⟨v3, ev3⟩ : ∃ y : Int32, y = x7 + 1 := ⟨_, rfl⟩
    replace hF := hF v3 ev3
    refine lv_iinc (v := v3) (lv' := [(7, .int v3), (0, .ref (α.1 1)), (1, .int x1), (4, .int x4), (5, .int x5), (6, .int x6)]) hx hb dX1_move_182 hl (k := 5) rfl (by rw [ev3]; rfl) (by decide) rfl (fun ls hl => ?_)
    refine lv_goto (tgt := 145) hx hb dX1_move_185 (by decide) ?_
    exact hL145 σ2 x1 x4 x5 x6 v3 hF H locs ls hP hS (lv_sub hl [1, 2, 3, 4, 5, 0] rfl)
  have B145 : ∀ (n : Nat) (σ : sm_S) (x1 : Int32) (x4 : Int32) (x5 : Int32) (x6 : Int32) (x7 : Int32), mp_X1_move_145 K n σ x1 x4 x5 x6 x7 → sm_J p l e (headSpec wp_X1_move { frames := 0, cells := 0, slots := 0, locals := 0 }).room s m ([.ref (α.1 1), .int p1] : List Value).toArray below meth c (MQ below (va_Qi K (sm_B sm_wX D α) A) ([.ref (α.1 1), .int p1] : List Value).toArray s 0 0 A) D A 8 (sm_wX σ α) 145 [(0, .ref (α.1 1)), (1, .int x1), (4, .int x4), (5, .int x5), (6, .int x6), (7, .int x7)] [] := by
    intro n145
    induction n145 with
    | zero =>
      intro σ x1 x4 x5 x6 x7 hF
      exact hF.elim
    | succ n145 ih145 =>
      intro σ x1 x4 x5 x6 x7 hF H locs ls hP hS hl
      unfold mp_X1_move_145 at hF
      refine lv_iload hx hb dX1_move_145 (lv_at hl 5 rfl) ?_
      refine lv_iload hx hb dX1_move_147 (lv_at hl 2 rfl) ?_
      refine lv_icmp_ge (tgt := 188) hx hb dX1_move_149 (by decide) (fun h4 => ?_) (fun h4 => ?_)
      · replace hF := hF.1 h4
        refine lv_aload_n hx hb dX1_move_188 rfl (lv_at hl 0 rfl) ?_
        refine va_get (D := D) (ci := 1) (v := .ref (α.1 17)) (C := RX1) (T := TX1) (N := 16) hx hb hts in_X1 hown hK hP 1 (sm_gX1 σ α) rfl 2 (by decide) k_0 (fun _ h9 => h9) rfl dX1_move_189 ?_
        refine lv_iload_n hx hb dX1_move_192 rfl (lv_at hl 1 rfl) ?_
        refine lv_ldc2 (v := 25769803776) hx hb hown k_1 dX1_move_193 ?_
        refine lv_iload hx hb dX1_move_196 (lv_at hl 3 rfl) ?_
        refine lv_i2l hx hb dX1_move_198 rfl ?_
        refine lv_lor hx hb dX1_move_199 ?_
        obtain ⟨h5, hF⟩ := hF
        refine va_last (n := (σ.2.2.1 17)) (f := (σ.2.2.2.2 17)) (x := (25769803776 ||| x5.toInt64)) hx hb hK hP (hD.to (sm_wX_m _ _)) hS 17 6 (sm_aX17 σ α) (sm_yX17 α) h5 dX1_move_200 (fun H locs hP _ hS => ?_)
        rw [sm_rX17] at hP
        obtain ⟨σ6, eσ6⟩ : ∃ x : sm_S, x = sm_q σ 17 (vp_updL (σ.2.2.2.2 17) x1.toNatClampNeg (25769803776 ||| x5.toInt64)) := ⟨_, rfl⟩
        replace hF := hF σ6 eσ6
        rw [← eσ6] at hP
        refine lv_aload_n hx hb dX1_move_201 rfl (lv_at hl 0 rfl) ?_
        refine lv_dup hx hb dX1_move_202 rfl ?_
        refine va_get (D := D) (ci := 1) (v := .int (σ6.1 13)) (C := RX1) (T := TX1) (N := 16) hx hb hts in_X1 hown hK hP 1 (sm_gX1 σ6 α) rfl 15 (by decide) k_2 (fun _ h9 => h9) rfl dX1_move_203 ?_
        refine lv_iconst (v := 2) hx hb dX1_move_206 (by decide) ?_
        refine lv_iload hx hb dX1_move_207 (lv_at hl 2 rfl) ?_
        refine lv_imul hx hb dX1_move_209 ?_
        refine lv_iconst (v := 1) hx hb dX1_move_210 (by decide) ?_
        refine lv_iadd hx hb dX1_move_211 ?_
        refine lv_iadd hx hb dX1_move_212 ?_
        refine va_put (D := D) (ci := 1) (v := .int ((σ6.1 13) + ((2 * x4) + 1))) (ty := .int) (C := RX1) (T := TX1) (N := 16) hx hb hts in_X1 tyX1 tyX1_ok nmX1 hown hK hP (hD.to (sm_wX_m _ _)) hS 1 (sm_gX1 σ6 α) rfl 15 (by decide) k_2 (fun _ h9 => h9) rfl (by decide +kernel) rfl rfl (Nat.le_of_ble_eq_true rfl) dX1_move_213 (fun H locs hP _ hS => ?_)
        rw [sm_iX13] at hP
        obtain ⟨σ7, eσ7⟩ : ∃ x : sm_S, x = sm_i σ6 13 ((σ6.1 13) + ((2 * x4) + 1)) := ⟨_, rfl⟩
        replace hF := hF σ7 eσ7
        rw [← eσ7] at hP
        refine lv_aload_n hx hb dX1_move_216 rfl (lv_at hl 0 rfl) ?_
        refine lv_dup hx hb dX1_move_217 rfl ?_
        refine va_get (D := D) (ci := 1) (v := .int (σ7.1 3)) (C := RX1) (T := TX1) (N := 16) hx hb hts in_X1 hown hK hP 1 (sm_gX1 σ7 α) rfl 5 (by decide) k_3 (fun _ h9 => h9) rfl dX1_move_218 ?_
        refine lv_iload hx hb dX1_move_221 (lv_at hl 2 rfl) ?_
        refine lv_iadd hx hb dX1_move_223 ?_
        refine va_put (D := D) (ci := 1) (v := .int ((σ7.1 3) + x4)) (ty := .int) (C := RX1) (T := TX1) (N := 16) hx hb hts in_X1 tyX1 tyX1_ok nmX1 hown hK hP (hD.to (sm_wX_m _ _)) hS 1 (sm_gX1 σ7 α) rfl 5 (by decide) k_3 (fun _ h9 => h9) rfl (by decide +kernel) rfl rfl (Nat.le_of_ble_eq_true rfl) dX1_move_224 (fun H locs hP _ hS => ?_)
        rw [sm_iX3] at hP
        obtain ⟨σ8, eσ8⟩ : ∃ x : sm_S, x = sm_i σ7 3 ((σ7.1 3) + x4) := ⟨_, rfl⟩
        replace hF := hF σ8 eσ8
        rw [← eσ8] at hP
        refine lv_iload hx hb dX1_move_227 (lv_at hl 3 rfl) ?_
        exact W.iret (v := x5) hx hb hr (fun t ht hW => ⟨⟨x5, σ8, rfl, hF, (by unfold sm_B; rw [ht]; exact hP)⟩, hS.F ht⟩) hS.2.2 dX1_move_229
      · replace hF := hF.2 h4
        refine lv_aload_n hx hb dX1_move_152 rfl (lv_at hl 0 rfl) ?_
        refine va_get (D := D) (ci := 1) (v := .ref (α.1 17)) (C := RX1) (T := TX1) (N := 16) hx hb hts in_X1 hown hK hP 1 (sm_gX1 σ α) rfl 2 (by decide) k_0 (fun _ h9 => h9) rfl dX1_move_153 ?_
        refine lv_iload hx hb dX1_move_156 (lv_at hl 3 rfl) ?_
        refine lv_iload hx hb dX1_move_158 (lv_at hl 5 rfl) ?_
        refine lv_iadd hx hb dX1_move_160 ?_
        refine lv_iload hx hb dX1_move_161 (lv_at hl 5 rfl) ?_
        refine lv_iload hx hb dX1_move_163 (lv_at hl 4 rfl) ?_
        refine lv_icmp_ge (tgt := 180) hx hb dX1_move_165 (by decide) (fun h9 => ?_) (fun h9 => ?_)
        · replace hF := hF.1 h9
          refine lv_lconst (v := 0) hx hb dX1_move_180 (by decide) ?_
          exact B181 (mp_X1_move_145 K n145) ih145 σ x1 x4 x5 x6 x7 (x5 + x7) 0 hF H locs ls hP hS (lv_sub hl [0, 1, 2, 3, 4, 5] rfl)
        · replace hF := hF.2 h9
          refine lv_aload_n hx hb dX1_move_168 rfl (lv_at hl 0 rfl) ?_
          refine va_get (D := D) (ci := 1) (v := .ref (α.1 17)) (C := RX1) (T := TX1) (N := 16) hx hb hts in_X1 hown hK hP 1 (sm_gX1 σ α) rfl 2 (by decide) k_0 (fun _ h9 => h9) rfl dX1_move_169 ?_
          refine lv_iload_n hx hb dX1_move_172 rfl (lv_at hl 1 rfl) ?_
          refine lv_iload hx hb dX1_move_173 (lv_at hl 5 rfl) ?_
          refine lv_iadd hx hb dX1_move_175 ?_
          obtain ⟨h10, hF⟩ := hF
          refine va_lald (n := (σ.2.2.1 17)) (f := (σ.2.2.2.2 17)) hx hb hK hP 17 6 (sm_aX17 σ α) (sm_yX17 α) h10 dX1_move_176 ?_
          refine lv_goto (tgt := 181) hx hb dX1_move_177 (by decide) ?_
          exact B181 (mp_X1_move_145 K n145) ih145 σ x1 x4 x5 x6 x7 (x5 + x7) ((σ.2.2.2.2 17) (x1 + x7).toNatClampNeg) hF H locs ls hP hS (lv_sub hl [0, 1, 2, 3, 4, 5] rfl)
  have B140 : ∀ (σ : sm_S) (x1 : Int32) (x4 : Int32) (x5 : Int32) (y0 : Int32), mp_X1_move_140 K σ x1 x4 x5 y0 → sm_J p l e (headSpec wp_X1_move { frames := 0, cells := 0, slots := 0, locals := 0 }).room s m ([.ref (α.1 1), .int p1] : List Value).toArray below meth c (MQ below (va_Qi K (sm_B sm_wX D α) A) ([.ref (α.1 1), .int p1] : List Value).toArray s 0 0 A) D A 8 (sm_wX σ α) 140 [(0, .ref (α.1 1)), (1, .int x1), (4, .int x4), (5, .int x5)] [.int y0] := by
    intro σ x1 x4 x5 y0 hF H locs ls hP hS hl
    unfold mp_X1_move_140 at hF
    refine lv_istore (lv' := [(6, .int y0), (0, .ref (α.1 1)), (1, .int x1), (4, .int x4), (5, .int x5)]) hx hb dX1_move_140 hl (by decide) rfl (fun ls hl => ?_)
    refine lv_iconst (v := 0) hx hb dX1_move_142 (by decide) ?_
    refine lv_istore (lv' := [(7, .int 0), (6, .int y0), (0, .ref (α.1 1)), (1, .int x1), (4, .int x4), (5, .int x5)]) hx hb dX1_move_143 hl (by decide) rfl (fun ls hl => ?_)
    obtain ⟨n145, hF⟩ := hF
    exact B145 n145 σ x1 x4 x5 y0 0 hF H locs ls hP hS (lv_sub hl [2, 3, 4, 5, 1, 0] rfl)
  have B107 : ∀ (σ : sm_S), mp_X1_move_107 K σ → sm_J p l e (headSpec wp_X1_move { frames := 0, cells := 0, slots := 0, locals := 0 }).room s m ([.ref (α.1 1), .int p1] : List Value).toArray below meth c (MQ below (va_Qi K (sm_B sm_wX D α) A) ([.ref (α.1 1), .int p1] : List Value).toArray s 0 0 A) D A 8 (sm_wX σ α) 107 [] [] := by
    intro σ hF H locs ls hP hS hl
    unfold mp_X1_move_107 at hF
    refine lv_iconst (v := 0) hx hb dX1_move_107 (by decide) ?_
    exact W.iret (v := 0) hx hb hr (fun t ht hW => ⟨⟨0, σ, rfl, hF, (by unfold sm_B; rw [ht]; exact hP)⟩, hS.F ht⟩) hS.2.2 dX1_move_108
  have B74 : ∀ (σ : sm_S) (x1 : Int32) (x2 : Int32) (x3 : Int32) (y0 : Int32), mp_X1_move_74 K σ x1 x2 x3 y0 → sm_J p l e (headSpec wp_X1_move { frames := 0, cells := 0, slots := 0, locals := 0 }).room s m ([.ref (α.1 1), .int p1] : List Value).toArray below meth c (MQ below (va_Qi K (sm_B sm_wX D α) A) ([.ref (α.1 1), .int p1] : List Value).toArray s 0 0 A) D A 8 (sm_wX σ α) 74 [(0, .ref (α.1 1)), (1, .int x1), (2, .int x2), (3, .int x3)] [.int y0] := by
    intro σ x1 x2 x3 y0 hF H locs ls hP hS hl
    unfold mp_X1_move_74 at hF
    refine lv_istore (lv' := [(4, .int y0), (0, .ref (α.1 1)), (1, .int x1), (2, .int x2), (3, .int x3)]) hx hb dX1_move_74 hl (by decide) rfl (fun ls hl => ?_)
    refine lv_aload_n hx hb dX1_move_76 rfl (lv_at hl 1 rfl) ?_
    refine va_get (D := D) (ci := 1) (v := .int (σ.1 3)) (C := RX1) (T := TX1) (N := 16) hx hb hts in_X1 hown hK hP 1 (sm_gX1 σ α) rfl 5 (by decide) k_3 (fun _ h9 => h9) rfl dX1_move_77 ?_
    refine lv_topi (fun v11 ev11 => ?_)
    replace hF := hF v11 ev11
    refine lv_istore (lv' := [(5, .int v11), (4, .int y0), (0, .ref (α.1 1)), (1, .int x1), (2, .int x2), (3, .int x3)]) hx hb dX1_move_80 hl (by decide) rfl (fun ls hl => ?_)
    refine lv_iload_n hx hb dX1_move_82 rfl (lv_at hl 3 rfl) ?_
    refine lv_iload hx hb dX1_move_83 (lv_at hl 1 rfl) ?_
    refine lv_iadd hx hb dX1_move_85 ?_
    refine lv_aload_n hx hb dX1_move_86 rfl (lv_at hl 2 rfl) ?_
    refine va_get (D := D) (ci := 1) (v := .ref (α.1 17)) (C := RX1) (T := TX1) (N := 16) hx hb hts in_X1 hown hK hP 1 (sm_gX1 σ α) rfl 2 (by decide) k_0 (fun _ h9 => h9) rfl dX1_move_87 ?_
    refine va_alen (v := nI (σ.2.2.1 17)) hx hb hK hP 17 6 (sm_aX17 σ α) (sm_yX17 α) rfl dX1_move_90 ?_
    refine lv_icmp_gt (tgt := 107) hx hb dX1_move_91 (by decide) (fun h12 => ?_) (fun h12 => ?_)
    · replace hF := hF.1 h12
      exact B107 σ hF H locs ls hP hS (lv_sub hl [] rfl)
    · replace hF := hF.2 h12
      refine lv_iload hx hb dX1_move_94 (lv_at hl 0 rfl) ?_
      refine lv_iload hx hb dX1_move_96 (lv_at hl 1 rfl) ?_
      refine lv_iadd hx hb dX1_move_98 ?_
      refine lv_aload_n hx hb dX1_move_99 rfl (lv_at hl 2 rfl) ?_
      refine va_get (D := D) (ci := 1) (v := .ref (α.1 17)) (C := RX1) (T := TX1) (N := 16) hx hb hts in_X1 hown hK hP 1 (sm_gX1 σ α) rfl 2 (by decide) k_0 (fun _ h9 => h9) rfl dX1_move_100 ?_
      refine va_alen (v := nI (σ.2.2.1 17)) hx hb hK hP 17 6 (sm_aX17 σ α) (sm_yX17 α) rfl dX1_move_103 ?_
      refine lv_icmp_le (tgt := 109) hx hb dX1_move_104 (by decide) (fun h13 => ?_) (fun h13 => ?_)
      · replace hF := hF.1 h13
        refine lv_iload_n hx hb dX1_move_109 rfl (lv_at hl 4 rfl) ?_
        refine lv_iconst (v := 5) hx hb dX1_move_110 (by decide) ?_
        refine lv_icmp_ne (tgt := 138) hx hb dX1_move_111 (by decide) (fun h14 => ?_) (fun h14 => ?_)
        · replace hF := hF.1 h14
          refine lv_iload hx hb dX1_move_138 (lv_at hl 1 rfl) ?_
          exact B140 σ x1 y0 v11 y0 hF H locs ls hP hS (lv_sub hl [2, 3, 1, 0] rfl)
        · replace hF := hF.2 h14
          refine lv_iconst (v := 4) hx hb dX1_move_114 (by decide) ?_
          refine lv_aload_n hx hb dX1_move_115 rfl (lv_at hl 2 rfl) ?_
          refine va_get (D := D) (ci := 1) (v := .ref (α.1 4)) (C := RX1) (T := TX1) (N := 16) hx hb hts in_X1 hown hK hP 1 (sm_gX1 σ α) rfl 1 (by decide) k_4 (fun _ h9 => h9) rfl dX1_move_116 ?_
          refine va_get (D := D) (ci := 4) (v := .ref (α.1 24)) (C := RX4) (T := TX4) (N := 12) hx hb hts in_X4 hown hK hP 4 (sm_gX4 σ α) rfl 6 (by decide) k_5 (fun _ h9 => h9) rfl dX1_move_119 ?_
          refine lv_iload_n hx hb dX1_move_122 rfl (lv_at hl 5 rfl) ?_
          obtain ⟨h15, hF⟩ := hF
          refine va_iald (n := (σ.2.2.1 24)) (f := (σ.2.2.2.1 24)) hx hb hK hP 24 13 (sm_aX24 σ α) (sm_yX24 α) h15 dX1_move_123 ?_
          refine lv_iadd hx hb dX1_move_124 ?_
          refine lv_aload_n hx hb dX1_move_125 rfl (lv_at hl 2 rfl) ?_
          refine va_get (D := D) (ci := 1) (v := .ref (α.1 17)) (C := RX1) (T := TX1) (N := 16) hx hb hts in_X1 hown hK hP 1 (sm_gX1 σ α) rfl 2 (by decide) k_0 (fun _ h9 => h9) rfl dX1_move_126 ?_
          refine lv_iload_n hx hb dX1_move_129 rfl (lv_at hl 3 rfl) ?_
          refine lv_iconst (v := 2) hx hb dX1_move_130 (by decide) ?_
          refine lv_iadd hx hb dX1_move_131 ?_
          obtain ⟨h16, hF⟩ := hF
          refine va_lald (n := (σ.2.2.1 17)) (f := (σ.2.2.2.2 17)) hx hb hK hP 17 6 (sm_aX17 σ α) (sm_yX17 α) h16 dX1_move_132 ?_
          refine lv_l2i hx hb dX1_move_133 rfl ?_
          refine lv_iadd hx hb dX1_move_134 ?_
          refine lv_goto (tgt := 140) hx hb dX1_move_135 (by decide) ?_
          exact B140 σ x1 y0 v11 ((4 + ((σ.2.2.2.1 24) x3.toNatClampNeg)) + (((σ.2.2.2.2 17) (x1 + 2).toNatClampNeg).toInt32)) hF H locs ls hP hS (lv_sub hl [2, 3, 1, 0] rfl)
      · replace hF := hF.2 h13
        exact B107 σ hF H locs ls hP hS (lv_sub hl [] rfl)
  have B14 : ∀ (σ : sm_S), mp_X1_move_14 K σ → sm_J p l e (headSpec wp_X1_move { frames := 0, cells := 0, slots := 0, locals := 0 }).room s m ([.ref (α.1 1), .int p1] : List Value).toArray below meth c (MQ below (va_Qi K (sm_B sm_wX D α) A) ([.ref (α.1 1), .int p1] : List Value).toArray s 0 0 A) D A 8 (sm_wX σ α) 14 [] [] := by
    intro σ hF H locs ls hP hS hl
    unfold mp_X1_move_14 at hF
    refine lv_iconst (v := 0) hx hb dX1_move_14 (by decide) ?_
    exact W.iret (v := 0) hx hb hr (fun t ht hW => ⟨⟨0, σ, rfl, hF, (by unfold sm_B; rw [ht]; exact hP)⟩, hS.F ht⟩) hS.2.2 dX1_move_15
  unfold mp_X1_move at hF
  revert hP hS
  generalize hLo : ([] : List Loc) = locs
  suffices h9 : ∀ (H : Heap) (locs : List Loc), va_P D vwCl (sm_wX σ α) H → va_S A s.heap H locs → W p l e (headSpec wp_X1_move { frames := 0, cells := 0, slots := 0, locals := 0 }).room s m ([.ref (α.1 1), .int p1] : List Value).toArray below meth c H locs 0 0 (MQ below (va_Qi K (sm_B sm_wX D α) A) ([.ref (α.1 1), .int p1] : List Value).toArray s 0 0 A) (F0 m 0 ls []) from fun hP hS => h9 s.heap locs hP hS
  intro H locs hP hS
  refine lv_iload_n hx hb dX1_move_0 rfl (lv_at hl 1 rfl) ?_
  refine lv_iconst (v := 1) hx hb dX1_move_1 (by decide) ?_
  refine lv_icmp_lt (tgt := 14) hx hb dX1_move_2 (by decide) (fun h17 => ?_) (fun h17 => ?_)
  · replace hF := hF.1 h17
    exact B14 σ hF H locs ls hP hS (lv_sub hl [] rfl)
  · replace hF := hF.2 h17
    refine lv_iload_n hx hb dX1_move_5 rfl (lv_at hl 1 rfl) ?_
    refine lv_aload_n hx hb dX1_move_6 rfl (lv_at hl 0 rfl) ?_
    refine va_get (D := D) (ci := 1) (v := .ref (α.1 17)) (C := RX1) (T := TX1) (N := 16) hx hb hts in_X1 hown hK hP 1 (sm_gX1 σ α) rfl 2 (by decide) k_0 (fun _ h9 => h9) rfl dX1_move_7 ?_
    refine va_alen (v := nI (σ.2.2.1 17)) hx hb hK hP 17 6 (sm_aX17 σ α) (sm_yX17 α) rfl dX1_move_10 ?_
    refine lv_icmp_lt (tgt := 16) hx hb dX1_move_11 (by decide) (fun h18 => ?_) (fun h18 => ?_)
    · replace hF := hF.1 h18
      refine lv_aload_n hx hb dX1_move_16 rfl (lv_at hl 0 rfl) ?_
      refine lv_dup hx hb dX1_move_17 rfl ?_
      refine va_get (D := D) (ci := 1) (v := .int (σ.1 13)) (C := RX1) (T := TX1) (N := 16) hx hb hts in_X1 hown hK hP 1 (sm_gX1 σ α) rfl 15 (by decide) k_2 (fun _ h9 => h9) rfl dX1_move_18 ?_
      refine lv_iconst (v := 1) hx hb dX1_move_21 (by decide) ?_
      refine lv_iadd hx hb dX1_move_22 ?_
      refine va_put (D := D) (ci := 1) (v := .int ((σ.1 13) + 1)) (ty := .int) (C := RX1) (T := TX1) (N := 16) hx hb hts in_X1 tyX1 tyX1_ok nmX1 hown hK hP (hD.to (sm_wX_m _ _)) hS 1 (sm_gX1 σ α) rfl 15 (by decide) k_2 (fun _ h9 => h9) rfl (by decide +kernel) rfl rfl (Nat.le_of_ble_eq_true rfl) dX1_move_23 (fun H locs hP _ hS => ?_)
      rw [sm_iX13] at hP
      obtain ⟨σ19, eσ19⟩ : ∃ x : sm_S, x = sm_i σ 13 ((σ.1 13) + 1) := ⟨_, rfl⟩
      replace hF := hF σ19 eσ19
      rw [← eσ19] at hP
      refine lv_aload_n hx hb dX1_move_26 rfl (lv_at hl 0 rfl) ?_
      refine va_get (D := D) (ci := 1) (v := .ref (α.1 17)) (C := RX1) (T := TX1) (N := 16) hx hb hts in_X1 hown hK hP 1 (sm_gX1 σ19 α) rfl 2 (by decide) k_0 (fun _ h9 => h9) rfl dX1_move_27 ?_
      refine lv_iload_n hx hb dX1_move_30 rfl (lv_at hl 1 rfl) ?_
      obtain ⟨h20, hF⟩ := hF
      refine va_lald (n := (σ19.2.2.1 17)) (f := (σ19.2.2.2.2 17)) hx hb hK hP 17 6 (sm_aX17 σ19 α) (sm_yX17 α) h20 dX1_move_31 ?_
      refine lv_bipush (v := 32) hx hb dX1_move_32 (by decide) ?_
      refine lv_lshr hx hb dX1_move_34 rfl ?_
      refine lv_l2i hx hb dX1_move_35 rfl ?_
      refine lv_topi (fun v21 ev21 => ?_)
      replace hF := hF v21 ev21
      refine lv_istore_n (lv' := [(2, .int v21), (0, .ref (α.1 1)), (1, .int p1)]) hx hb dX1_move_36 rfl hl (by decide) rfl (fun ls hl => ?_)
      refine lv_aload_n hx hb dX1_move_37 rfl (lv_at hl 1 rfl) ?_
      refine va_get (D := D) (ci := 1) (v := .ref (α.1 17)) (C := RX1) (T := TX1) (N := 16) hx hb hts in_X1 hown hK hP 1 (sm_gX1 σ19 α) rfl 2 (by decide) k_0 (fun _ h9 => h9) rfl dX1_move_38 ?_
      refine lv_iload_n hx hb dX1_move_41 rfl (lv_at hl 2 rfl) ?_
      obtain ⟨h22, hF⟩ := hF
      refine va_lald (n := (σ19.2.2.1 17)) (f := (σ19.2.2.2.2 17)) hx hb hK hP 17 6 (sm_aX17 σ19 α) (sm_yX17 α) h22 dX1_move_42 ?_
      refine lv_l2i hx hb dX1_move_43 rfl ?_
      refine lv_topi (fun v23 ev23 => ?_)
      replace hF := hF v23 ev23
      refine lv_istore_n (lv' := [(3, .int v23), (2, .int v21), (0, .ref (α.1 1)), (1, .int p1)]) hx hb dX1_move_44 rfl hl (by decide) rfl (fun ls hl => ?_)
      refine lv_iload_n hx hb dX1_move_45 rfl (lv_at hl 1 rfl) ?_
      refine lv_bipush (v := 6) hx hb dX1_move_46 (by decide) ?_
      refine lv_icmp_ne (tgt := 53) hx hb dX1_move_48 (by decide) (fun h24 => ?_) (fun h24 => ?_)
      · replace hF := hF.1 h24
        refine lv_iload_n hx hb dX1_move_53 rfl (lv_at hl 1 rfl) ?_
        refine lv_iconst (v := 2) hx hb dX1_move_54 (by decide) ?_
        refine lv_icmp_ne (tgt := 72) hx hb dX1_move_55 (by decide) (fun h25 => ?_) (fun h25 => ?_)
        · replace hF := hF.1 h25
          refine lv_bipush (v := 16) hx hb dX1_move_72 (by decide) ?_
          exact B74 σ19 p1 v21 v23 16 hF H locs ls hP hS (lv_sub hl [2, 3, 1, 0] rfl)
        · replace hF := hF.2 h25
          refine lv_iconst (v := 1) hx hb dX1_move_58 (by decide) ?_
          refine lv_aload_n hx hb dX1_move_59 rfl (lv_at hl 2 rfl) ?_
          refine va_get (D := D) (ci := 1) (v := .ref (α.1 0)) (C := RX1) (T := TX1) (N := 16) hx hb hts in_X1 hown hK hP 1 (sm_gX1 σ19 α) rfl 0 (by decide) k_6 (fun _ h9 => h9) rfl dX1_move_60 ?_
          refine va_get (D := D) (ci := 0) (v := .ref (α.1 12)) (C := RX0) (T := TX0) (N := 7) hx hb hts in_X0 hown hK hP 0 (sm_gX0 σ19 α) rfl 2 (by decide) k_7 (fun _ h9 => h9) rfl dX1_move_63 ?_
          refine lv_iload_n hx hb dX1_move_66 rfl (lv_at hl 0 rfl) ?_
          obtain ⟨h26, hF⟩ := hF
          refine va_iald (n := (σ19.2.2.1 12)) (f := (σ19.2.2.2.1 12)) hx hb hK hP 12 1 (sm_aX12 σ19 α) (sm_yX12 α) h26 dX1_move_67 ?_
          refine lv_iadd hx hb dX1_move_68 ?_
          refine lv_goto (tgt := 74) hx hb dX1_move_69 (by decide) ?_
          exact B74 σ19 p1 v21 v23 (1 + ((σ19.2.2.2.1 12) v23.toNatClampNeg)) hF H locs ls hP hS (lv_sub hl [2, 3, 1, 0] rfl)
      · replace hF := hF.2 h24
        refine lv_iload_n hx hb dX1_move_51 rfl (lv_at hl 0 rfl) ?_
        exact W.iret (v := v23) hx hb hr (fun t ht hW => ⟨⟨v23, σ19, rfl, hF, (by unfold sm_B; rw [ht]; exact hP)⟩, hS.F ht⟩) hS.2.2 dX1_move_52
    · replace hF := hF.2 h18
      exact B14 σ hF H locs ls hP hS (lv_sub hl [] rfl)
theorem dX1_read_0 : decode cX1_read 0 = .ok (.aload_n 0, 1) := by decide +kernel
theorem dX1_read_1 : decode cX1_read 1 = .ok (.iload_n 1, 1) := by decide +kernel
theorem dX1_read_2 : decode cX1_read 2 = .ok (.invokevirtual 78, 3) := by decide +kernel
theorem dX1_read_5 : decode cX1_read 5 = .ok (.lstore_n 2, 1) := by decide +kernel
theorem dX1_read_6 : decode cX1_read 6 = .ok (.aload_n 0, 1) := by decide +kernel
theorem dX1_read_7 : decode cX1_read 7 = .ok (.lload_n 2, 1) := by decide +kernel
theorem dX1_read_8 : decode cX1_read 8 = .ok (.invokevirtual 82, 3) := by decide +kernel
theorem dX1_read_11 : decode cX1_read 11 = .ok (.ifCond .eq 20, 3) := by decide +kernel
theorem dX1_read_14 : decode cX1_read 14 = .ok (.iconst 1, 1) := by decide +kernel
theorem dX1_read_15 : decode cX1_read 15 = .ok (.aload_n 0, 1) := by decide +kernel
theorem dX1_read_16 : decode cX1_read 16 = .ok (.lload_n 2, 1) := by decide +kernel
theorem dX1_read_17 : decode cX1_read 17 = .ok (.l2i, 1) := by decide +kernel
theorem dX1_read_18 : decode cX1_read 18 = .ok (.invokevirtual 86, 3) := by decide +kernel
theorem dX1_read_21 : decode cX1_read 21 = .ok (.invokestatic 90, 3) := by decide +kernel
theorem dX1_read_24 : decode cX1_read 24 = .ok (.lstore_n 2, 1) := by decide +kernel
theorem dX1_read_25 : decode cX1_read 25 = .ok (.aload_n 0, 1) := by decide +kernel
theorem dX1_read_26 : decode cX1_read 26 = .ok (.iload_n 1, 1) := by decide +kernel
theorem dX1_read_27 : decode cX1_read 27 = .ok (.lload_n 2, 1) := by decide +kernel
theorem dX1_read_28 : decode cX1_read 28 = .ok (.invokevirtual 94, 3) := by decide +kernel
theorem dX1_read_31 : decode cX1_read 31 = .ok (.lload_n 2, 1) := by decide +kernel
theorem dX1_read_32 : decode cX1_read 32 = .ok (.lreturn, 1) := by decide +kernel
def wp_X1_read : List Cond := .code yX1_read cX1_read 4 (some .long) :: ((((([] ++ (wsV RX1 78 RX1 yX1_look wp_X1_look)) ++ (wsV RX1 82 RX1 yX1_leadsBack wp_X1_leadsBack)) ++ (wsV RX1 86 RX1 yX1_move wp_X1_move)) ++ (va_wsS RX1 90 yX1_cell wp_X1_cell)) ++ (wsV RX1 94 RX1 yX1_put wp_X1_put))
theorem wq_X1_read : wp_X1_read.all goodWord = true := wa_c rfl (wa_a (wa_a (wa_a (wa_a (wa_a (by decide +kernel) (wa_V wq_X1_look)) (wa_V wq_X1_leadsBack)) (wa_V wq_X1_move)) (wa_S wq_X1_cell)) (wa_V wq_X1_put))
theorem wt_X1_read : GoodIn lw_tbl wp_X1_read := wm_c (List.mem_of_getElem? (i := 909) (by decide +kernel)) rfl (wm_a (wm_a (wm_a (wm_a (wm_a (goodIn_r _ [] (by decide +kernel) (by decide +kernel)) (wm_a (goodIn_r _ [910, 911, 912, 144] (by decide +kernel) (by decide +kernel)) wt_X1_look)) (wm_a (goodIn_r _ [914, 916, 38, 144] (by decide +kernel) (by decide +kernel)) wt_X1_leadsBack)) (wm_a (goodIn_r _ [897, 899, 37, 144] (by decide +kernel) (by decide +kernel)) wt_X1_move)) (wm_a (goodIn_r _ [918, 919, 144] (by decide +kernel) (by decide +kernel)) wt_X1_cell)) (wm_a (goodIn_r _ [922, 923, 924, 144] (by decide +kernel) (by decide +kernel)) wt_X1_put))
theorem wg_X1_read_X1_look_78 : GoodIn wp_X1_read (wsV RX1 78 RX1 yX1_look wp_X1_look) := goodIn_sub (fun w h => List.mem_cons_of_mem _ (List.mem_append_left _ (List.mem_append_left _ (List.mem_append_left _ (List.mem_append_left _ (List.mem_append_right _ h)))))) (wa_V wq_X1_look)
theorem wg_X1_read_X1_leadsBack_82 : GoodIn wp_X1_read (wsV RX1 82 RX1 yX1_leadsBack wp_X1_leadsBack) := goodIn_sub (fun w h => List.mem_cons_of_mem _ (List.mem_append_left _ (List.mem_append_left _ (List.mem_append_left _ (List.mem_append_right _ h))))) (wa_V wq_X1_leadsBack)
theorem wg_X1_read_X1_move_86 : GoodIn wp_X1_read (wsV RX1 86 RX1 yX1_move wp_X1_move) := goodIn_sub (fun w h => List.mem_cons_of_mem _ (List.mem_append_left _ (List.mem_append_left _ (List.mem_append_right _ h)))) (wa_V wq_X1_move)
theorem wg_X1_read_X1_cell_90 : GoodIn wp_X1_read (va_wsS RX1 90 yX1_cell wp_X1_cell) := goodIn_sub (fun w h => List.mem_cons_of_mem _ (List.mem_append_left _ (List.mem_append_right _ h))) (wa_S wq_X1_cell)
theorem wg_X1_read_X1_put_94 : GoodIn wp_X1_read (wsV RX1 94 RX1 yX1_put wp_X1_put) := goodIn_sub (fun w h => List.mem_cons_of_mem _ (List.mem_append_right _ h)) (wa_V wq_X1_put)
set_option maxHeartbeats 4000000 in
set_option maxRecDepth 100000 in
theorem c_X1_read (l : Launch) (D : va_G) (sz t0 : Nat) (σ : sm_S) (α : sm_A) (p1 : Int32) (K : Int64 → sm_S → Prop) (hF : mp_X1_read σ p1 K) : Met l yX1_read wp_X1_read { frames := 1, cells := 0, slots := 0, locals := 27 } (sm_P sm_wX sm_tX 37 D sz t0 σ α [.ref (α.1 1), .int p1]) (va_Ql K (sm_B sm_wX D α) (sm_a α 37 sz)) 0 0 (sm_a α 37 sz) := by
  refine Met.ofW (cc := cX1_read) (maxL := 4) (ret := (some .long)) (by decide) rfl ?_
  intro p e s m args below meth c s₁ B hml hv
  obtain ⟨rfl, hsz, hP, hK, hD0, hE⟩ := hv
  have hx := B.exec
  have hb := B.bytes
  have hr := B.returns
  have hts := atoms_spec (ws := wp_X1_read) B.pre
  have hown : s.vm.findClass RX1 = some m.cls := findClass_of_methodNamed B.named
  have hlocks := B.notSynchronized
  subst hsz
  have hD : sm_D (sm_a α 37 s.heap.size) α 37 := hD0.own
  have hA : ∀ q : Nat, s.heap.size ≤ q → sm_a α 37 s.heap.size q := fun q h => Or.inr h
  generalize hAe : sm_a α 37 s.heap.size = A at hD hA hE ⊢
  have hS : va_S A s.heap s.heap [] := va_S.rf
  have hl := lv_entry ([.ref (α.1 1), .int p1]) (n := 4) (Nat.le_of_ble_eq_true rfl)
  rw [lg_entry_eq]
  generalize (lg_sl ([.ref (α.1 1), .int p1]) ++ List.replicate (4 - (lg_sl ([.ref (α.1 1), .int p1])).length) Slot.unset).toArray = ls at hl ⊢
  have hl : lv_has ls 4 [(0, .ref (α.1 1)), (1, .int p1)] := hl
  have B31 : ∀ (σ : sm_S) (x2 : Int64), mp_X1_read_31 K σ x2 → sm_J p l e (headSpec wp_X1_read { frames := 1, cells := 0, slots := 0, locals := 27 }).room s m ([.ref (α.1 1), .int p1] : List Value).toArray below meth c (MQ below (va_Ql K (sm_B sm_wX D α) A) ([.ref (α.1 1), .int p1] : List Value).toArray s 0 0 A) D A 4 (sm_wX σ α) 31 [(2, .long x2)] [] := by
    intro σ x2 hF H locs ls hP hS hl
    unfold mp_X1_read_31 at hF
    refine lv_lload_n hx hb dX1_read_31 rfl (lv_at hl 0 rfl) ?_
    exact W.lret (v := x2) hx hb hr (fun t ht hW => ⟨⟨x2, σ, rfl, hF, (by unfold sm_B; rw [ht]; exact hP)⟩, hS.F ht⟩) hS.2.2 dX1_read_32
  unfold mp_X1_read at hF
  revert hP hS
  generalize hLo : ([] : List Loc) = locs
  suffices h9 : ∀ (H : Heap) (locs : List Loc), va_P D vwCl (sm_wX σ α) H → va_S A s.heap H locs → W p l e (headSpec wp_X1_read { frames := 1, cells := 0, slots := 0, locals := 27 }).room s m ([.ref (α.1 1), .int p1] : List Value).toArray below meth c H locs 0 0 (MQ below (va_Ql K (sm_B sm_wX D α) A) ([.ref (α.1 1), .int p1] : List Value).toArray s 0 0 A) (F0 m 0 ls []) from fun hP hS => h9 s.heap locs hP hS
  intro H locs hP hS
  refine lv_aload_n hx hb dX1_read_0 rfl (lv_at hl 0 rfl) ?_
  refine lv_iload_n hx hb dX1_read_1 rfl (lv_at hl 1 rfl) ?_
  refine sm_vl (As := [.int p1]) (rest := []) hP hK hD hE hS hA ⟨hx, hb, hml, hown, hts⟩ hl.1 (c_X1_look l D H.size t0 σ α p1 _ hF) (cwV 1 hts wg_X1_read_X1_look_78 rfl rfl rfl (by decide +kernel) ⟨Nat.le_of_ble_eq_true rfl, Nat.le_of_ble_eq_true rfl⟩) (va_recv hK hP (ci := 1) (q0 := 1) rfl (sm_gX1 σ α)) rfl rfl (Nat.le_of_ble_eq_true rfl) dX1_read_2 ⟨Nat.zero_le _, Nat.zero_le _⟩ (fun r2 σ1 H locs hF hP hS => ?_)
  refine lv_lstore_n (lv' := [(2, .long r2), (0, .ref (α.1 1)), (1, .int p1)]) hx hb dX1_read_5 rfl hl (by decide) rfl (fun ls hl => ?_)
  refine lv_aload_n hx hb dX1_read_6 rfl (lv_at hl 1 rfl) ?_
  refine lv_lload_n hx hb dX1_read_7 rfl (lv_at hl 0 rfl) ?_
  refine sm_vi (As := [.long r2]) (rest := []) hP hK hD hE hS hA ⟨hx, hb, hml, hown, hts⟩ hl.1 (c_X1_leadsBack l D H.size t0 σ1 α r2 _ hF) (cwV 1 hts wg_X1_read_X1_leadsBack_82 rfl rfl rfl (by decide +kernel) ⟨Nat.le_of_ble_eq_true rfl, Nat.le_of_ble_eq_true rfl⟩) (va_recv hK hP (ci := 1) (q0 := 1) rfl (sm_gX1 σ1 α)) rfl rfl (Nat.le_of_ble_eq_true rfl) dX1_read_8 ⟨Nat.zero_le _, Nat.zero_le _⟩ (fun r4 σ3 H locs hF hP hS => ?_)
  refine lv_if_eq (tgt := 31) hx hb dX1_read_11 (by decide) (fun h5 => ?_) (fun h5 => ?_)
  · replace hF := hF.1 h5
    exact B31 σ3 r2 hF H locs ls hP hS (lv_sub hl [0] rfl)
  · replace hF := hF.2 h5
    refine lv_iconst (v := 1) hx hb dX1_read_14 (by decide) ?_
    refine lv_aload_n hx hb dX1_read_15 rfl (lv_at hl 1 rfl) ?_
    refine lv_lload_n hx hb dX1_read_16 rfl (lv_at hl 0 rfl) ?_
    refine lv_l2i hx hb dX1_read_17 rfl ?_
    refine sm_vi (As := [.int r2.toInt32]) (rest := [.int 1]) hP hK hD hE hS hA ⟨hx, hb, hml, hown, hts⟩ hl.1 (c_X1_move l D H.size t0 σ3 α r2.toInt32 _ hF) (cwV 1 hts wg_X1_read_X1_move_86 rfl rfl rfl (by decide +kernel) ⟨Nat.le_of_ble_eq_true rfl, Nat.le_of_ble_eq_true rfl⟩) (va_recv hK hP (ci := 1) (q0 := 1) rfl (sm_gX1 σ3 α)) rfl rfl (Nat.le_of_ble_eq_true rfl) dX1_read_18 ⟨Nat.zero_le _, Nat.zero_le _⟩ (fun r7 σ6 H locs hF hP hS => ?_)
    refine sm_sl (As := [.int 1, .int r7]) (rest := []) hP hK hD hE hS hA ⟨hx, hb, hml, hown, hts⟩ hl.1 (c_X1_cell l D H.size t0 σ6 α 1 r7 _ hF) (va_cwS 2 hts wg_X1_read_X1_cell_90 rfl rfl rfl (by decide +kernel) ⟨Nat.le_of_ble_eq_true rfl, Nat.le_of_ble_eq_true rfl⟩) rfl rfl (Nat.le_of_ble_eq_true rfl) dX1_read_21 ⟨Nat.zero_le _, Nat.zero_le _⟩ (fun r9 σ8 H locs hF hP hS => ?_)
    refine lv_lstore_n (lv' := [(2, .long r9), (0, .ref (α.1 1)), (1, .int p1)]) hx hb dX1_read_24 rfl hl (by decide) rfl (fun ls hl => ?_)
    refine lv_aload_n hx hb dX1_read_25 rfl (lv_at hl 1 rfl) ?_
    refine lv_iload_n hx hb dX1_read_26 rfl (lv_at hl 2 rfl) ?_
    refine lv_lload_n hx hb dX1_read_27 rfl (lv_at hl 0 rfl) ?_
    refine sm_vv (As := [.int p1, .long r9]) (rest := []) hP hK hD hE hS hA ⟨hx, hb, hml, hown, hts⟩ hl.1 (c_X1_put l D H.size t0 σ8 α p1 r9 _ hF) (cwV 2 hts wg_X1_read_X1_put_94 rfl rfl rfl (by decide +kernel) ⟨Nat.le_of_ble_eq_true rfl, Nat.le_of_ble_eq_true rfl⟩) (va_recv hK hP (ci := 1) (q0 := 1) rfl (sm_gX1 σ8 α)) rfl rfl (Nat.le_of_ble_eq_true rfl) dX1_read_28 ⟨Nat.zero_le _, Nat.zero_le _⟩ (fun σ10 H locs hF hP hS => ?_)
    exact B31 σ10 r9 hF H locs ls hP hS (lv_sub hl [0] rfl)
theorem dX1_change_0 : decode cX1_change 0 = .ok (.aload_n 0, 1) := by decide +kernel
theorem dX1_change_1 : decode cX1_change 1 = .ok (.iload_n 1, 1) := by decide +kernel
theorem dX1_change_2 : decode cX1_change 2 = .ok (.invokevirtual 98, 3) := by decide +kernel
theorem dX1_change_5 : decode cX1_change 5 = .ok (.pop2, 1) := by decide +kernel
theorem dX1_change_6 : decode cX1_change 6 = .ok (.aload_n 0, 1) := by decide +kernel
theorem dX1_change_7 : decode cX1_change 7 = .ok (.iload_n 1, 1) := by decide +kernel
theorem dX1_change_8 : decode cX1_change 8 = .ok (.lload_n 2, 1) := by decide +kernel
theorem dX1_change_9 : decode cX1_change 9 = .ok (.invokevirtual 94, 3) := by decide +kernel
theorem dX1_change_12 : decode cX1_change 12 = .ok (.return_, 1) := by decide +kernel
def wp_X1_change : List Cond := .code yX1_change cX1_change 4 none :: (([] ++ (wsV RX1 98 RX1 yX1_read wp_X1_read)) ++ (wsV RX1 94 RX1 yX1_put wp_X1_put))
theorem wq_X1_change : wp_X1_change.all goodWord = true := wa_c rfl (wa_a (wa_a (by decide +kernel) (wa_V wq_X1_read)) (wa_V wq_X1_put))
theorem wt_X1_change : GoodIn lw_tbl wp_X1_change := wm_c (List.mem_of_getElem? (i := 1023) (by decide +kernel)) rfl (wm_a (wm_a (goodIn_r _ [] (by decide +kernel) (by decide +kernel)) (wm_a (goodIn_r _ [906, 907, 908, 144] (by decide +kernel) (by decide +kernel)) wt_X1_read)) (wm_a (goodIn_r _ [922, 923, 924, 144] (by decide +kernel) (by decide +kernel)) wt_X1_put))
theorem wg_X1_change_X1_read_98 : GoodIn wp_X1_change (wsV RX1 98 RX1 yX1_read wp_X1_read) := goodIn_sub (fun w h => List.mem_cons_of_mem _ (List.mem_append_left _ (List.mem_append_right _ h))) (wa_V wq_X1_read)
theorem wg_X1_change_X1_put_94 : GoodIn wp_X1_change (wsV RX1 94 RX1 yX1_put wp_X1_put) := goodIn_sub (fun w h => List.mem_cons_of_mem _ (List.mem_append_right _ h)) (wa_V wq_X1_put)
set_option maxHeartbeats 4000000 in
set_option maxRecDepth 100000 in
theorem c_X1_change (l : Launch) (D : va_G) (sz t0 : Nat) (σ : sm_S) (α : sm_A) (p1 : Int32) (p2 : Int64) (K : sm_S → Prop) (hF : mp_X1_change σ p1 p2 K) : Met l yX1_change wp_X1_change { frames := 2, cells := 0, slots := 0, locals := 50 } (sm_P sm_wX sm_tX 37 D sz t0 σ α [.ref (α.1 1), .int p1, .long p2]) (va_Qv K (sm_B sm_wX D α) (sm_a α 37 sz)) 0 0 (sm_a α 37 sz) := by
  refine Met.ofW (cc := cX1_change) (maxL := 4) (ret := none) (by decide) rfl ?_
  intro p e s m args below meth c s₁ B hml hv
  obtain ⟨rfl, hsz, hP, hK, hD0, hE⟩ := hv
  have hx := B.exec
  have hb := B.bytes
  have hr := B.returns
  have hts := atoms_spec (ws := wp_X1_change) B.pre
  have hown : s.vm.findClass RX1 = some m.cls := findClass_of_methodNamed B.named
  have hlocks := B.notSynchronized
  subst hsz
  have hD : sm_D (sm_a α 37 s.heap.size) α 37 := hD0.own
  have hA : ∀ q : Nat, s.heap.size ≤ q → sm_a α 37 s.heap.size q := fun q h => Or.inr h
  generalize hAe : sm_a α 37 s.heap.size = A at hD hA hE ⊢
  have hS : va_S A s.heap s.heap [] := va_S.rf
  have hl := lv_entry ([.ref (α.1 1), .int p1, .long p2]) (n := 4) (Nat.le_of_ble_eq_true rfl)
  rw [lg_entry_eq]
  generalize (lg_sl ([.ref (α.1 1), .int p1, .long p2]) ++ List.replicate (4 - (lg_sl ([.ref (α.1 1), .int p1, .long p2])).length) Slot.unset).toArray = ls at hl ⊢
  have hl : lv_has ls 4 [(0, .ref (α.1 1)), (1, .int p1), (2, .long p2)] := hl
  unfold mp_X1_change at hF
  revert hP hS
  generalize hLo : ([] : List Loc) = locs
  suffices h9 : ∀ (H : Heap) (locs : List Loc), va_P D vwCl (sm_wX σ α) H → va_S A s.heap H locs → W p l e (headSpec wp_X1_change { frames := 2, cells := 0, slots := 0, locals := 50 }).room s m ([.ref (α.1 1), .int p1, .long p2] : List Value).toArray below meth c H locs 0 0 (MQ below (va_Qv K (sm_B sm_wX D α) A) ([.ref (α.1 1), .int p1, .long p2] : List Value).toArray s 0 0 A) (F0 m 0 ls []) from fun hP hS => h9 s.heap locs hP hS
  intro H locs hP hS
  refine lv_aload_n hx hb dX1_change_0 rfl (lv_at hl 0 rfl) ?_
  refine lv_iload_n hx hb dX1_change_1 rfl (lv_at hl 1 rfl) ?_
  refine sm_vl (As := [.int p1]) (rest := []) hP hK hD hE hS hA ⟨hx, hb, hml, hown, hts⟩ hl.1 (c_X1_read l D H.size t0 σ α p1 _ hF) (cwV 1 hts wg_X1_change_X1_read_98 rfl rfl rfl (by decide +kernel) ⟨Nat.le_of_ble_eq_true rfl, Nat.le_of_ble_eq_true rfl⟩) (va_recv hK hP (ci := 1) (q0 := 1) rfl (sm_gX1 σ α)) rfl rfl (Nat.le_of_ble_eq_true rfl) dX1_change_2 ⟨Nat.zero_le _, Nat.zero_le _⟩ (fun r2 σ1 H locs hF hP hS => ?_)
  refine lv_pop2_2 hx hb dX1_change_5 rfl ?_
  refine lv_aload_n hx hb dX1_change_6 rfl (lv_at hl 0 rfl) ?_
  refine lv_iload_n hx hb dX1_change_7 rfl (lv_at hl 1 rfl) ?_
  refine lv_lload_n hx hb dX1_change_8 rfl (lv_at hl 2 rfl) ?_
  refine sm_vv (As := [.int p1, .long p2]) (rest := []) hP hK hD hE hS hA ⟨hx, hb, hml, hown, hts⟩ hl.1 (c_X1_put l D H.size t0 σ1 α p1 p2 _ hF) (cwV 2 hts wg_X1_change_X1_put_94 rfl rfl rfl (by decide +kernel) ⟨Nat.le_of_ble_eq_true rfl, Nat.le_of_ble_eq_true rfl⟩) (va_recv hK hP (ci := 1) (q0 := 1) rfl (sm_gX1 σ1 α)) rfl rfl (Nat.le_of_ble_eq_true rfl) dX1_change_9 ⟨Nat.zero_le _, Nat.zero_le _⟩ (fun σ3 H locs hF hP hS => ?_)
  exact W.vret hx hb hr (fun t ht hW => ⟨⟨σ3, rfl, hF, (by unfold sm_B; rw [ht]; exact hP)⟩, hS.F ht⟩) hS.2.2 dX1_change_12
theorem dX1_settle_0 : decode cX1_settle 0 = .ok (.iconst 3, 1) := by decide +kernel
theorem dX1_settle_1 : decode cX1_settle 1 = .ok (.istore_n 2, 1) := by decide +kernel
theorem dX1_settle_2 : decode cX1_settle 2 = .ok (.iload_n 2, 1) := by decide +kernel
theorem dX1_settle_3 : decode cX1_settle 3 = .ok (.bipush 16, 2) := by decide +kernel
theorem dX1_settle_5 : decode cX1_settle 5 = .ok (.if_icmp .ge 28, 3) := by decide +kernel
theorem dX1_settle_8 : decode cX1_settle 8 = .ok (.aload_n 0, 1) := by decide +kernel
theorem dX1_settle_9 : decode cX1_settle 9 = .ok (.getfield 62, 3) := by decide +kernel
theorem dX1_settle_12 : decode cX1_settle 12 = .ok (.aload_n 0, 1) := by decide +kernel
theorem dX1_settle_13 : decode cX1_settle 13 = .ok (.getfield 59, 3) := by decide +kernel
theorem dX1_settle_16 : decode cX1_settle 16 = .ok (.if_icmp .ge 17, 3) := by decide +kernel
theorem dX1_settle_19 : decode cX1_settle 19 = .ok (.aload_n 0, 1) := by decide +kernel
theorem dX1_settle_20 : decode cX1_settle 20 = .ok (.iload_n 1, 1) := by decide +kernel
theorem dX1_settle_21 : decode cX1_settle 21 = .ok (.iload_n 2, 1) := by decide +kernel
theorem dX1_settle_22 : decode cX1_settle 22 = .ok (.iadd, 1) := by decide +kernel
theorem dX1_settle_23 : decode cX1_settle 23 = .ok (.invokevirtual 98, 3) := by decide +kernel
theorem dX1_settle_26 : decode cX1_settle 26 = .ok (.pop2, 1) := by decide +kernel
theorem dX1_settle_27 : decode cX1_settle 27 = .ok (.iinc 2 1, 3) := by decide +kernel
theorem dX1_settle_30 : decode cX1_settle 30 = .ok (.goto (-28), 3) := by decide +kernel
theorem dX1_settle_33 : decode cX1_settle 33 = .ok (.return_, 1) := by decide +kernel
def wp_X1_settle : List Cond := .code yX1_settle cX1_settle 3 none :: (([.fieldLink RX1 62 "SteadyMachine$Heap" "scanned" "I", .fieldLink RX1 59 "SteadyMachine$Heap" "free" "I"] ++ (wsV RX1 98 RX1 yX1_read wp_X1_read)) ++ wsX10)
theorem wq_X1_settle : wp_X1_settle.all goodWord = true := wa_c rfl (wa_a (wa_a (by decide +kernel) (wa_V wq_X1_read)) uq_X1)
theorem wt_X1_settle : GoodIn lw_tbl wp_X1_settle := wm_c (List.mem_of_getElem? (i := 905) (by decide +kernel)) rfl (wm_a (wm_a (goodIn_r _ [453, 452] (by decide +kernel) (by decide +kernel)) (wm_a (goodIn_r _ [906, 907, 908, 144] (by decide +kernel) (by decide +kernel)) wt_X1_read)) ut_X1)
theorem wg_X1_settle_X1_read_98 : GoodIn wp_X1_settle (wsV RX1 98 RX1 yX1_read wp_X1_read) := goodIn_sub (fun w h => List.mem_cons_of_mem _ (List.mem_append_left _ (List.mem_append_right _ h))) (wa_V wq_X1_read)
theorem wi_X1_settle_X1 : ∀ w ∈ wsX10, w ∈ wp_X1_settle := fun w h => List.mem_cons_of_mem _ (List.mem_append_right _ h)
set_option maxHeartbeats 4000000 in
set_option maxRecDepth 100000 in
theorem c_X1_settle (l : Launch) (D : va_G) (sz t0 : Nat) (σ : sm_S) (α : sm_A) (p1 : Int32) (K : sm_S → Prop) (hF : mp_X1_settle σ p1 K) : Met l yX1_settle wp_X1_settle { frames := 2, cells := 0, slots := 0, locals := 50 } (sm_P sm_wX sm_tX 37 D sz t0 σ α [.ref (α.1 1), .int p1]) (va_Qv K (sm_B sm_wX D α) (sm_a α 37 sz)) 0 0 (sm_a α 37 sz) := by
  refine Met.ofW (cc := cX1_settle) (maxL := 3) (ret := none) (by decide) rfl ?_
  intro p e s m args below meth c s₁ B hml hv
  obtain ⟨rfl, hsz, hP, hK, hD0, hE⟩ := hv
  have hx := B.exec
  have hb := B.bytes
  have hr := B.returns
  have hts := atoms_spec (ws := wp_X1_settle) B.pre
  have hown : s.vm.findClass RX1 = some m.cls := findClass_of_methodNamed B.named
  have hlocks := B.notSynchronized
  subst hsz
  have hD : sm_D (sm_a α 37 s.heap.size) α 37 := hD0.own
  have hA : ∀ q : Nat, s.heap.size ≤ q → sm_a α 37 s.heap.size q := fun q h => Or.inr h
  generalize hAe : sm_a α 37 s.heap.size = A at hD hA hE ⊢
  have hS : va_S A s.heap s.heap [] := va_S.rf
  have in_X1 : ∀ w ∈ wsX10, w ∈ wp_X1_settle := wi_X1_settle_X1
  have k_0 := hts (.fieldLink RX1 62 "SteadyMachine$Heap" "scanned" "I") (by decide +kernel)
  have k_1 := hts (.fieldLink RX1 59 "SteadyMachine$Heap" "free" "I") (by decide +kernel)
  have hl := lv_entry ([.ref (α.1 1), .int p1]) (n := 3) (Nat.le_of_ble_eq_true rfl)
  rw [lg_entry_eq]
  generalize (lg_sl ([.ref (α.1 1), .int p1]) ++ List.replicate (3 - (lg_sl ([.ref (α.1 1), .int p1])).length) Slot.unset).toArray = ls at hl ⊢
  have hl : lv_has ls 3 [(0, .ref (α.1 1)), (1, .int p1)] := hl
  have B33 : ∀ (σ : sm_S), mp_X1_settle_33 K σ → sm_J p l e (headSpec wp_X1_settle { frames := 2, cells := 0, slots := 0, locals := 50 }).room s m ([.ref (α.1 1), .int p1] : List Value).toArray below meth c (MQ below (va_Qv K (sm_B sm_wX D α) A) ([.ref (α.1 1), .int p1] : List Value).toArray s 0 0 A) D A 3 (sm_wX σ α) 33 [] [] := by
    intro σ hF H locs ls hP hS hl
    unfold mp_X1_settle_33 at hF
    exact W.vret hx hb hr (fun t ht hW => ⟨⟨σ, rfl, hF, (by unfold sm_B; rw [ht]; exact hP)⟩, hS.F ht⟩) hS.2.2 dX1_settle_33
  have B2 : ∀ (n : Nat) (σ : sm_S) (x1 : Int32) (x2 : Int32), mp_X1_settle_2 K n σ x1 x2 → sm_J p l e (headSpec wp_X1_settle { frames := 2, cells := 0, slots := 0, locals := 50 }).room s m ([.ref (α.1 1), .int p1] : List Value).toArray below meth c (MQ below (va_Qv K (sm_B sm_wX D α) A) ([.ref (α.1 1), .int p1] : List Value).toArray s 0 0 A) D A 3 (sm_wX σ α) 2 [(0, .ref (α.1 1)), (1, .int x1), (2, .int x2)] [] := by
    intro n2
    induction n2 with
    | zero =>
      intro σ x1 x2 hF
      exact hF.elim
    | succ n2 ih2 =>
      intro σ x1 x2 hF H locs ls hP hS hl
      unfold mp_X1_settle_2 at hF
      refine lv_iload_n hx hb dX1_settle_2 rfl (lv_at hl 2 rfl) ?_
      refine lv_bipush (v := 16) hx hb dX1_settle_3 (by decide) ?_
      refine lv_icmp_ge (tgt := 33) hx hb dX1_settle_5 (by decide) (fun h1 => ?_) (fun h1 => ?_)
      · replace hF := hF.1 h1
        exact B33 σ hF H locs ls hP hS (lv_sub hl [] rfl)
      · replace hF := hF.2 h1
        refine lv_aload_n hx hb dX1_settle_8 rfl (lv_at hl 0 rfl) ?_
        refine va_get (D := D) (ci := 1) (v := .int (σ.1 4)) (C := RX1) (T := TX1) (N := 16) hx hb hts in_X1 hown hK hP 1 (sm_gX1 σ α) rfl 6 (by decide) k_0 (fun _ h9 => h9) rfl dX1_settle_9 ?_
        refine lv_aload_n hx hb dX1_settle_12 rfl (lv_at hl 0 rfl) ?_
        refine va_get (D := D) (ci := 1) (v := .int (σ.1 3)) (C := RX1) (T := TX1) (N := 16) hx hb hts in_X1 hown hK hP 1 (sm_gX1 σ α) rfl 5 (by decide) k_1 (fun _ h9 => h9) rfl dX1_settle_13 ?_
        refine lv_icmp_ge (tgt := 33) hx hb dX1_settle_16 (by decide) (fun h2 => ?_) (fun h2 => ?_)
        · replace hF := hF.1 h2
          exact B33 σ hF H locs ls hP hS (lv_sub hl [] rfl)
        · replace hF := hF.2 h2
          refine lv_aload_n hx hb dX1_settle_19 rfl (lv_at hl 0 rfl) ?_
          refine lv_iload_n hx hb dX1_settle_20 rfl (lv_at hl 1 rfl) ?_
          refine lv_iload_n hx hb dX1_settle_21 rfl (lv_at hl 2 rfl) ?_
          refine lv_iadd hx hb dX1_settle_22 ?_
          refine sm_vl (As := [.int (x1 + x2)]) (rest := []) hP hK hD hE hS hA ⟨hx, hb, hml, hown, hts⟩ hl.1 (c_X1_read l D H.size t0 σ α (x1 + x2) _ hF) (cwV 1 hts wg_X1_settle_X1_read_98 rfl rfl rfl (by decide +kernel) ⟨Nat.le_of_ble_eq_true rfl, Nat.le_of_ble_eq_true rfl⟩) (va_recv hK hP (ci := 1) (q0 := 1) rfl (sm_gX1 σ α)) rfl rfl (Nat.le_of_ble_eq_true rfl) dX1_settle_23 ⟨Nat.zero_le _, Nat.zero_le _⟩ (fun r4 σ3 H locs hF hP hS => ?_)
          refine lv_pop2_2 hx hb dX1_settle_26 rfl ?_
          obtain ⟨v5, ev5⟩ : ∃ y : Int32, y = x2 + 1 := ⟨_, rfl⟩
          replace hF := hF v5 ev5
          refine lv_iinc (v := v5) (lv' := [(2, .int v5), (0, .ref (α.1 1)), (1, .int x1)]) hx hb dX1_settle_27 hl (k := 2) rfl (by rw [ev5]; rfl) (by decide) rfl (fun ls hl => ?_)
          refine lv_goto (tgt := 2) hx hb dX1_settle_30 (by decide) ?_
          exact ih2 σ3 x1 v5 hF H locs ls hP hS (lv_sub hl [1, 2, 0] rfl)
  unfold mp_X1_settle at hF
  revert hP hS
  generalize hLo : ([] : List Loc) = locs
  suffices h9 : ∀ (H : Heap) (locs : List Loc), va_P D vwCl (sm_wX σ α) H → va_S A s.heap H locs → W p l e (headSpec wp_X1_settle { frames := 2, cells := 0, slots := 0, locals := 50 }).room s m ([.ref (α.1 1), .int p1] : List Value).toArray below meth c H locs 0 0 (MQ below (va_Qv K (sm_B sm_wX D α) A) ([.ref (α.1 1), .int p1] : List Value).toArray s 0 0 A) (F0 m 0 ls []) from fun hP hS => h9 s.heap locs hP hS
  intro H locs hP hS
  refine lv_iconst (v := 3) hx hb dX1_settle_0 (by decide) ?_
  refine lv_istore_n (lv' := [(2, .int 3), (0, .ref (α.1 1)), (1, .int p1)]) hx hb dX1_settle_1 rfl hl (by decide) rfl (fun ls hl => ?_)
  obtain ⟨n2, hF⟩ := hF
  exact B2 n2 σ p1 3 hF H locs ls hP hS (lv_sub hl [1, 2, 0] rfl)
theorem dX1_moveOn_0 : decode cX1_moveOn 0 = .ok (.iconst 2, 1) := by decide +kernel
theorem dX1_moveOn_1 : decode cX1_moveOn 1 = .ok (.aload_n 0, 1) := by decide +kernel
theorem dX1_moveOn_2 : decode cX1_moveOn 2 = .ok (.getfield 27, 3) := by decide +kernel
theorem dX1_moveOn_5 : decode cX1_moveOn 5 = .ok (.imul, 1) := by decide +kernel
theorem dX1_moveOn_6 : decode cX1_moveOn 6 = .ok (.aload_n 0, 1) := by decide +kernel
theorem dX1_moveOn_7 : decode cX1_moveOn 7 = .ok (.getfield 68, 3) := by decide +kernel
theorem dX1_moveOn_10 : decode cX1_moveOn 10 = .ok (.imul, 1) := by decide +kernel
theorem dX1_moveOn_11 : decode cX1_moveOn 11 = .ok (.istore_n 1, 1) := by decide +kernel
theorem dX1_moveOn_12 : decode cX1_moveOn 12 = .ok (.iconst 0, 1) := by decide +kernel
theorem dX1_moveOn_13 : decode cX1_moveOn 13 = .ok (.istore_n 2, 1) := by decide +kernel
theorem dX1_moveOn_14 : decode cX1_moveOn 14 = .ok (.iload_n 2, 1) := by decide +kernel
theorem dX1_moveOn_15 : decode cX1_moveOn 15 = .ok (.iload_n 1, 1) := by decide +kernel
theorem dX1_moveOn_16 : decode cX1_moveOn 16 = .ok (.if_icmp .ge 57, 3) := by decide +kernel
theorem dX1_moveOn_19 : decode cX1_moveOn 19 = .ok (.aload_n 0, 1) := by decide +kernel
theorem dX1_moveOn_20 : decode cX1_moveOn 20 = .ok (.getfield 62, 3) := by decide +kernel
theorem dX1_moveOn_23 : decode cX1_moveOn 23 = .ok (.aload_n 0, 1) := by decide +kernel
theorem dX1_moveOn_24 : decode cX1_moveOn 24 = .ok (.getfield 59, 3) := by decide +kernel
theorem dX1_moveOn_27 : decode cX1_moveOn 27 = .ok (.if_icmp .ge 46, 3) := by decide +kernel
theorem dX1_moveOn_30 : decode cX1_moveOn 30 = .ok (.aload_n 0, 1) := by decide +kernel
theorem dX1_moveOn_31 : decode cX1_moveOn 31 = .ok (.invokevirtual 71, 3) := by decide +kernel
theorem dX1_moveOn_34 : decode cX1_moveOn 34 = .ok (.aload_n 0, 1) := by decide +kernel
theorem dX1_moveOn_35 : decode cX1_moveOn 35 = .ok (.getfield 62, 3) := by decide +kernel
theorem dX1_moveOn_38 : decode cX1_moveOn 38 = .ok (.iadd, 1) := by decide +kernel
theorem dX1_moveOn_39 : decode cX1_moveOn 39 = .ok (.aload_n 0, 1) := by decide +kernel
theorem dX1_moveOn_40 : decode cX1_moveOn 40 = .ok (.getfield 56, 3) := by decide +kernel
theorem dX1_moveOn_43 : decode cX1_moveOn 43 = .ok (.isub, 1) := by decide +kernel
theorem dX1_moveOn_44 : decode cX1_moveOn 44 = .ok (.iload_n 1, 1) := by decide +kernel
theorem dX1_moveOn_45 : decode cX1_moveOn 45 = .ok (.if_icmp .ge 28, 3) := by decide +kernel
theorem dX1_moveOn_48 : decode cX1_moveOn 48 = .ok (.aload_n 0, 1) := by decide +kernel
theorem dX1_moveOn_49 : decode cX1_moveOn 49 = .ok (.aload_n 0, 1) := by decide +kernel
theorem dX1_moveOn_50 : decode cX1_moveOn 50 = .ok (.getfield 62, 3) := by decide +kernel
theorem dX1_moveOn_53 : decode cX1_moveOn 53 = .ok (.invokevirtual 98, 3) := by decide +kernel
theorem dX1_moveOn_56 : decode cX1_moveOn 56 = .ok (.pop2, 1) := by decide +kernel
theorem dX1_moveOn_57 : decode cX1_moveOn 57 = .ok (.aload_n 0, 1) := by decide +kernel
theorem dX1_moveOn_58 : decode cX1_moveOn 58 = .ok (.dup, 1) := by decide +kernel
theorem dX1_moveOn_59 : decode cX1_moveOn 59 = .ok (.getfield 62, 3) := by decide +kernel
theorem dX1_moveOn_62 : decode cX1_moveOn 62 = .ok (.iconst 1, 1) := by decide +kernel
theorem dX1_moveOn_63 : decode cX1_moveOn 63 = .ok (.iadd, 1) := by decide +kernel
theorem dX1_moveOn_64 : decode cX1_moveOn 64 = .ok (.putfield 62, 3) := by decide +kernel
theorem dX1_moveOn_67 : decode cX1_moveOn 67 = .ok (.iinc 2 1, 3) := by decide +kernel
theorem dX1_moveOn_70 : decode cX1_moveOn 70 = .ok (.goto (-56), 3) := by decide +kernel
theorem dX1_moveOn_73 : decode cX1_moveOn 73 = .ok (.return_, 1) := by decide +kernel
def wp_X1_moveOn : List Cond := .code yX1_moveOn cX1_moveOn 3 none :: ((([.fieldLink RX1 62 "SteadyMachine$Heap" "scanned" "I", .fieldLink RX1 59 "SteadyMachine$Heap" "free" "I", .fieldLink RX1 56 "SteadyMachine$Heap" "base" "I", .fieldLink RX1 27 "SteadyMachine$Heap" "k" "I", .fieldLink RX1 68 "SteadyMachine$Heap" "made" "I"] ++ (wsV RX1 71 RX1 yX1_moved wp_X1_moved)) ++ (wsV RX1 98 RX1 yX1_read wp_X1_read)) ++ wsX10)
theorem wq_X1_moveOn : wp_X1_moveOn.all goodWord = true := wa_c rfl (wa_a (wa_a (wa_a (by decide +kernel) (wa_V wq_X1_moved)) (wa_V wq_X1_read)) uq_X1)
theorem wt_X1_moveOn : GoodIn lw_tbl wp_X1_moveOn := wm_c (List.mem_of_getElem? (i := 929) (by decide +kernel)) rfl (wm_a (wm_a (wm_a (goodIn_r _ [453, 452, 451, 455, 458] (by decide +kernel) (by decide +kernel)) (wm_a (goodIn_r _ [893, 894, 895, 144] (by decide +kernel) (by decide +kernel)) wt_X1_moved)) (wm_a (goodIn_r _ [906, 907, 908, 144] (by decide +kernel) (by decide +kernel)) wt_X1_read)) ut_X1)
theorem wg_X1_moveOn_X1_moved_71 : GoodIn wp_X1_moveOn (wsV RX1 71 RX1 yX1_moved wp_X1_moved) := goodIn_sub (fun w h => List.mem_cons_of_mem _ (List.mem_append_left _ (List.mem_append_left _ (List.mem_append_right _ h)))) (wa_V wq_X1_moved)
theorem wg_X1_moveOn_X1_read_98 : GoodIn wp_X1_moveOn (wsV RX1 98 RX1 yX1_read wp_X1_read) := goodIn_sub (fun w h => List.mem_cons_of_mem _ (List.mem_append_left _ (List.mem_append_right _ h))) (wa_V wq_X1_read)
theorem wi_X1_moveOn_X1 : ∀ w ∈ wsX10, w ∈ wp_X1_moveOn := fun w h => List.mem_cons_of_mem _ (List.mem_append_right _ h)
set_option maxHeartbeats 4000000 in
set_option maxRecDepth 100000 in
theorem c_X1_moveOn (l : Launch) (D : va_G) (sz t0 : Nat) (σ : sm_S) (α : sm_A) (K : sm_S → Prop) (hF : mp_X1_moveOn σ K) : Met l yX1_moveOn wp_X1_moveOn { frames := 2, cells := 0, slots := 0, locals := 50 } (sm_P sm_wX sm_tX 37 D sz t0 σ α [.ref (α.1 1)]) (va_Qv K (sm_B sm_wX D α) (sm_a α 37 sz)) 0 0 (sm_a α 37 sz) := by
  refine Met.ofW (cc := cX1_moveOn) (maxL := 3) (ret := none) (by decide) rfl ?_
  intro p e s m args below meth c s₁ B hml hv
  obtain ⟨rfl, hsz, hP, hK, hD0, hE⟩ := hv
  have hx := B.exec
  have hb := B.bytes
  have hr := B.returns
  have hts := atoms_spec (ws := wp_X1_moveOn) B.pre
  have hown : s.vm.findClass RX1 = some m.cls := findClass_of_methodNamed B.named
  have hlocks := B.notSynchronized
  subst hsz
  have hD : sm_D (sm_a α 37 s.heap.size) α 37 := hD0.own
  have hA : ∀ q : Nat, s.heap.size ≤ q → sm_a α 37 s.heap.size q := fun q h => Or.inr h
  generalize hAe : sm_a α 37 s.heap.size = A at hD hA hE ⊢
  have hS : va_S A s.heap s.heap [] := va_S.rf
  have in_X1 : ∀ w ∈ wsX10, w ∈ wp_X1_moveOn := wi_X1_moveOn_X1
  have k_0 := hts (.fieldLink RX1 62 "SteadyMachine$Heap" "scanned" "I") (by decide +kernel)
  have k_1 := hts (.fieldLink RX1 59 "SteadyMachine$Heap" "free" "I") (by decide +kernel)
  have k_2 := hts (.fieldLink RX1 56 "SteadyMachine$Heap" "base" "I") (by decide +kernel)
  have k_3 := hts (.fieldLink RX1 27 "SteadyMachine$Heap" "k" "I") (by decide +kernel)
  have k_4 := hts (.fieldLink RX1 68 "SteadyMachine$Heap" "made" "I") (by decide +kernel)
  have hl := lv_entry ([.ref (α.1 1)]) (n := 3) (Nat.le_of_ble_eq_true rfl)
  rw [lg_entry_eq]
  generalize (lg_sl ([.ref (α.1 1)]) ++ List.replicate (3 - (lg_sl ([.ref (α.1 1)])).length) Slot.unset).toArray = ls at hl ⊢
  have hl : lv_has ls 3 [(0, .ref (α.1 1))] := hl
  have B73 : ∀ (σ : sm_S), mp_X1_moveOn_73 K σ → sm_J p l e (headSpec wp_X1_moveOn { frames := 2, cells := 0, slots := 0, locals := 50 }).room s m ([.ref (α.1 1)] : List Value).toArray below meth c (MQ below (va_Qv K (sm_B sm_wX D α) A) ([.ref (α.1 1)] : List Value).toArray s 0 0 A) D A 3 (sm_wX σ α) 73 [] [] := by
    intro σ hF H locs ls hP hS hl
    unfold mp_X1_moveOn_73 at hF
    exact W.vret hx hb hr (fun t ht hW => ⟨⟨σ, rfl, hF, (by unfold sm_B; rw [ht]; exact hP)⟩, hS.F ht⟩) hS.2.2 dX1_moveOn_73
  have B14 : ∀ (n : Nat) (σ : sm_S) (x1 : Int32) (x2 : Int32), mp_X1_moveOn_14 K n σ x1 x2 → sm_J p l e (headSpec wp_X1_moveOn { frames := 2, cells := 0, slots := 0, locals := 50 }).room s m ([.ref (α.1 1)] : List Value).toArray below meth c (MQ below (va_Qv K (sm_B sm_wX D α) A) ([.ref (α.1 1)] : List Value).toArray s 0 0 A) D A 3 (sm_wX σ α) 14 [(0, .ref (α.1 1)), (1, .int x1), (2, .int x2)] [] := by
    intro n14
    induction n14 with
    | zero =>
      intro σ x1 x2 hF
      exact hF.elim
    | succ n14 ih14 =>
      intro σ x1 x2 hF H locs ls hP hS hl
      unfold mp_X1_moveOn_14 at hF
      refine lv_iload_n hx hb dX1_moveOn_14 rfl (lv_at hl 2 rfl) ?_
      refine lv_iload_n hx hb dX1_moveOn_15 rfl (lv_at hl 1 rfl) ?_
      refine lv_icmp_ge (tgt := 73) hx hb dX1_moveOn_16 (by decide) (fun h1 => ?_) (fun h1 => ?_)
      · replace hF := hF.1 h1
        exact B73 σ hF H locs ls hP hS (lv_sub hl [] rfl)
      · replace hF := hF.2 h1
        refine lv_aload_n hx hb dX1_moveOn_19 rfl (lv_at hl 0 rfl) ?_
        refine va_get (D := D) (ci := 1) (v := .int (σ.1 4)) (C := RX1) (T := TX1) (N := 16) hx hb hts in_X1 hown hK hP 1 (sm_gX1 σ α) rfl 6 (by decide) k_0 (fun _ h9 => h9) rfl dX1_moveOn_20 ?_
        refine lv_aload_n hx hb dX1_moveOn_23 rfl (lv_at hl 0 rfl) ?_
        refine va_get (D := D) (ci := 1) (v := .int (σ.1 3)) (C := RX1) (T := TX1) (N := 16) hx hb hts in_X1 hown hK hP 1 (sm_gX1 σ α) rfl 5 (by decide) k_1 (fun _ h9 => h9) rfl dX1_moveOn_24 ?_
        refine lv_icmp_ge (tgt := 73) hx hb dX1_moveOn_27 (by decide) (fun h2 => ?_) (fun h2 => ?_)
        · replace hF := hF.1 h2
          exact B73 σ hF H locs ls hP hS (lv_sub hl [] rfl)
        · replace hF := hF.2 h2
          refine lv_aload_n hx hb dX1_moveOn_30 rfl (lv_at hl 0 rfl) ?_
          refine sm_vi (As := []) (rest := []) hP hK hD hE hS hA ⟨hx, hb, hml, hown, hts⟩ hl.1 (c_X1_moved l D H.size t0 σ α _ hF) (cwV 0 hts wg_X1_moveOn_X1_moved_71 rfl rfl rfl (by decide +kernel) ⟨Nat.le_of_ble_eq_true rfl, Nat.le_of_ble_eq_true rfl⟩) (va_recv hK hP (ci := 1) (q0 := 1) rfl (sm_gX1 σ α)) rfl rfl (Nat.le_of_ble_eq_true rfl) dX1_moveOn_31 ⟨Nat.zero_le _, Nat.zero_le _⟩ (fun r4 σ3 H locs hF hP hS => ?_)
          refine lv_aload_n hx hb dX1_moveOn_34 rfl (lv_at hl 0 rfl) ?_
          refine va_get (D := D) (ci := 1) (v := .int (σ3.1 4)) (C := RX1) (T := TX1) (N := 16) hx hb hts in_X1 hown hK hP 1 (sm_gX1 σ3 α) rfl 6 (by decide) k_0 (fun _ h9 => h9) rfl dX1_moveOn_35 ?_
          refine lv_iadd hx hb dX1_moveOn_38 ?_
          refine lv_aload_n hx hb dX1_moveOn_39 rfl (lv_at hl 0 rfl) ?_
          refine va_get (D := D) (ci := 1) (v := .int (σ3.1 2)) (C := RX1) (T := TX1) (N := 16) hx hb hts in_X1 hown hK hP 1 (sm_gX1 σ3 α) rfl 4 (by decide) k_2 (fun _ h9 => h9) rfl dX1_moveOn_40 ?_
          refine lv_isub hx hb dX1_moveOn_43 ?_
          refine lv_iload_n hx hb dX1_moveOn_44 rfl (lv_at hl 1 rfl) ?_
          refine lv_icmp_ge (tgt := 73) hx hb dX1_moveOn_45 (by decide) (fun h5 => ?_) (fun h5 => ?_)
          · replace hF := hF.1 h5
            exact B73 σ3 hF H locs ls hP hS (lv_sub hl [] rfl)
          · replace hF := hF.2 h5
            refine lv_aload_n hx hb dX1_moveOn_48 rfl (lv_at hl 0 rfl) ?_
            refine lv_aload_n hx hb dX1_moveOn_49 rfl (lv_at hl 0 rfl) ?_
            refine va_get (D := D) (ci := 1) (v := .int (σ3.1 4)) (C := RX1) (T := TX1) (N := 16) hx hb hts in_X1 hown hK hP 1 (sm_gX1 σ3 α) rfl 6 (by decide) k_0 (fun _ h9 => h9) rfl dX1_moveOn_50 ?_
            refine sm_vl (As := [.int (σ3.1 4)]) (rest := []) hP hK hD hE hS hA ⟨hx, hb, hml, hown, hts⟩ hl.1 (c_X1_read l D H.size t0 σ3 α (σ3.1 4) _ hF) (cwV 1 hts wg_X1_moveOn_X1_read_98 rfl rfl rfl (by decide +kernel) ⟨Nat.le_of_ble_eq_true rfl, Nat.le_of_ble_eq_true rfl⟩) (va_recv hK hP (ci := 1) (q0 := 1) rfl (sm_gX1 σ3 α)) rfl rfl (Nat.le_of_ble_eq_true rfl) dX1_moveOn_53 ⟨Nat.zero_le _, Nat.zero_le _⟩ (fun r7 σ6 H locs hF hP hS => ?_)
            refine lv_pop2_2 hx hb dX1_moveOn_56 rfl ?_
            refine lv_aload_n hx hb dX1_moveOn_57 rfl (lv_at hl 0 rfl) ?_
            refine lv_dup hx hb dX1_moveOn_58 rfl ?_
            refine va_get (D := D) (ci := 1) (v := .int (σ6.1 4)) (C := RX1) (T := TX1) (N := 16) hx hb hts in_X1 hown hK hP 1 (sm_gX1 σ6 α) rfl 6 (by decide) k_0 (fun _ h9 => h9) rfl dX1_moveOn_59 ?_
            refine lv_iconst (v := 1) hx hb dX1_moveOn_62 (by decide) ?_
            refine lv_iadd hx hb dX1_moveOn_63 ?_
            refine va_put (D := D) (ci := 1) (v := .int ((σ6.1 4) + 1)) (ty := .int) (C := RX1) (T := TX1) (N := 16) hx hb hts in_X1 tyX1 tyX1_ok nmX1 hown hK hP (hD.to (sm_wX_m _ _)) hS 1 (sm_gX1 σ6 α) rfl 6 (by decide) k_0 (fun _ h9 => h9) rfl (by decide +kernel) rfl rfl (Nat.le_of_ble_eq_true rfl) dX1_moveOn_64 (fun H locs hP _ hS => ?_)
            rw [sm_iX4] at hP
            obtain ⟨σ8, eσ8⟩ : ∃ x : sm_S, x = sm_i σ6 4 ((σ6.1 4) + 1) := ⟨_, rfl⟩
            replace hF := hF σ8 eσ8
            rw [← eσ8] at hP
            obtain ⟨v9, ev9⟩ : ∃ y : Int32, y = x2 + 1 := ⟨_, rfl⟩
            replace hF := hF v9 ev9
            refine lv_iinc (v := v9) (lv' := [(2, .int v9), (0, .ref (α.1 1)), (1, .int x1)]) hx hb dX1_moveOn_67 hl (k := 2) rfl (by rw [ev9]; rfl) (by decide) rfl (fun ls hl => ?_)
            refine lv_goto (tgt := 14) hx hb dX1_moveOn_70 (by decide) ?_
            exact ih14 σ8 x1 v9 hF H locs ls hP hS (lv_sub hl [1, 2, 0] rfl)
  unfold mp_X1_moveOn at hF
  revert hP hS
  generalize hLo : ([] : List Loc) = locs
  suffices h9 : ∀ (H : Heap) (locs : List Loc), va_P D vwCl (sm_wX σ α) H → va_S A s.heap H locs → W p l e (headSpec wp_X1_moveOn { frames := 2, cells := 0, slots := 0, locals := 50 }).room s m ([.ref (α.1 1)] : List Value).toArray below meth c H locs 0 0 (MQ below (va_Qv K (sm_B sm_wX D α) A) ([.ref (α.1 1)] : List Value).toArray s 0 0 A) (F0 m 0 ls []) from fun hP hS => h9 s.heap locs hP hS
  intro H locs hP hS
  refine lv_iconst (v := 2) hx hb dX1_moveOn_0 (by decide) ?_
  refine lv_aload_n hx hb dX1_moveOn_1 rfl (lv_at hl 0 rfl) ?_
  refine va_get (D := D) (ci := 1) (v := .int (σ.1 6)) (C := RX1) (T := TX1) (N := 16) hx hb hts in_X1 hown hK hP 1 (sm_gX1 σ α) rfl 8 (by decide) k_3 (fun _ h9 => h9) rfl dX1_moveOn_2 ?_
  refine lv_imul hx hb dX1_moveOn_5 ?_
  refine lv_aload_n hx hb dX1_moveOn_6 rfl (lv_at hl 0 rfl) ?_
  refine va_get (D := D) (ci := 1) (v := .int (σ.1 8)) (C := RX1) (T := TX1) (N := 16) hx hb hts in_X1 hown hK hP 1 (sm_gX1 σ α) rfl 10 (by decide) k_4 (fun _ h9 => h9) rfl dX1_moveOn_7 ?_
  refine lv_imul hx hb dX1_moveOn_10 ?_
  refine lv_topi (fun v10 ev10 => ?_)
  replace hF := hF v10 ev10
  refine lv_istore_n (lv' := [(1, .int v10), (0, .ref (α.1 1))]) hx hb dX1_moveOn_11 rfl hl (by decide) rfl (fun ls hl => ?_)
  refine lv_iconst (v := 0) hx hb dX1_moveOn_12 (by decide) ?_
  refine lv_istore_n (lv' := [(2, .int 0), (1, .int v10), (0, .ref (α.1 1))]) hx hb dX1_moveOn_13 rfl hl (by decide) rfl (fun ls hl => ?_)
  obtain ⟨n14, hF⟩ := hF
  exact B14 n14 σ v10 0 hF H locs ls hP hS (lv_sub hl [2, 1, 0] rfl)
theorem dX1_make_0 : decode cX1_make 0 = .ok (.aload_n 0, 1) := by decide +kernel
theorem dX1_make_1 : decode cX1_make 1 = .ok (.invokevirtual 114, 3) := by decide +kernel
theorem dX1_make_4 : decode cX1_make 4 = .ok (.ifCond .eq 86, 3) := by decide +kernel
theorem dX1_make_7 : decode cX1_make 7 = .ok (.aload_n 0, 1) := by decide +kernel
theorem dX1_make_8 : decode cX1_make 8 = .ok (.invokevirtual 71, 3) := by decide +kernel
theorem dX1_make_11 : decode cX1_make 11 = .ok (.aload_n 0, 1) := by decide +kernel
theorem dX1_make_12 : decode cX1_make 12 = .ok (.getfield 30, 3) := by decide +kernel
theorem dX1_make_15 : decode cX1_make 15 = .ok (.if_icmp .le 5, 3) := by decide +kernel
theorem dX1_make_18 : decode cX1_make 18 = .ok (.iconst 0, 1) := by decide +kernel
theorem dX1_make_19 : decode cX1_make 19 = .ok (.ireturn, 1) := by decide +kernel
theorem dX1_make_20 : decode cX1_make 20 = .ok (.aload_n 0, 1) := by decide +kernel
theorem dX1_make_21 : decode cX1_make 21 = .ok (.invokevirtual 71, 3) := by decide +kernel
theorem dX1_make_24 : decode cX1_make 24 = .ok (.aload_n 0, 1) := by decide +kernel
theorem dX1_make_25 : decode cX1_make 25 = .ok (.getfield 68, 3) := by decide +kernel
theorem dX1_make_28 : decode cX1_make 28 = .ok (.iadd, 1) := by decide +kernel
theorem dX1_make_29 : decode cX1_make 29 = .ok (.iload_n 1, 1) := by decide +kernel
theorem dX1_make_30 : decode cX1_make 30 = .ok (.iadd, 1) := by decide +kernel
theorem dX1_make_31 : decode cX1_make 31 = .ok (.aload_n 0, 1) := by decide +kernel
theorem dX1_make_32 : decode cX1_make 32 = .ok (.getfield 30, 3) := by decide +kernel
theorem dX1_make_35 : decode cX1_make 35 = .ok (.if_icmp .le 55, 3) := by decide +kernel
theorem dX1_make_38 : decode cX1_make 38 = .ok (.aload_n 0, 1) := by decide +kernel
theorem dX1_make_39 : decode cX1_make 39 = .ok (.aload_n 0, 1) := by decide +kernel
theorem dX1_make_40 : decode cX1_make 40 = .ok (.getfield 56, 3) := by decide +kernel
theorem dX1_make_43 : decode cX1_make 43 = .ok (.iconst 1, 1) := by decide +kernel
theorem dX1_make_44 : decode cX1_make 44 = .ok (.if_icmp .ne 12, 3) := by decide +kernel
theorem dX1_make_47 : decode cX1_make 47 = .ok (.iconst 1, 1) := by decide +kernel
theorem dX1_make_48 : decode cX1_make 48 = .ok (.aload_n 0, 1) := by decide +kernel
theorem dX1_make_49 : decode cX1_make 49 = .ok (.getfield 23, 3) := by decide +kernel
theorem dX1_make_52 : decode cX1_make 52 = .ok (.iadd, 1) := by decide +kernel
theorem dX1_make_53 : decode cX1_make 53 = .ok (.goto 4, 3) := by decide +kernel
theorem dX1_make_56 : decode cX1_make 56 = .ok (.iconst 1, 1) := by decide +kernel
theorem dX1_make_57 : decode cX1_make 57 = .ok (.invokevirtual 52, 3) := by decide +kernel
theorem dX1_make_60 : decode cX1_make 60 = .ok (.aload_n 0, 1) := by decide +kernel
theorem dX1_make_61 : decode cX1_make 61 = .ok (.dup, 1) := by decide +kernel
theorem dX1_make_62 : decode cX1_make 62 = .ok (.getfield 39, 3) := by decide +kernel
theorem dX1_make_65 : decode cX1_make 65 = .ok (.iconst 1, 1) := by decide +kernel
theorem dX1_make_66 : decode cX1_make 66 = .ok (.iadd, 1) := by decide +kernel
theorem dX1_make_67 : decode cX1_make 67 = .ok (.putfield 39, 3) := by decide +kernel
theorem dX1_make_70 : decode cX1_make 70 = .ok (.aload_n 0, 1) := by decide +kernel
theorem dX1_make_71 : decode cX1_make 71 = .ok (.aload_n 0, 1) := by decide +kernel
theorem dX1_make_72 : decode cX1_make 72 = .ok (.aload_n 0, 1) := by decide +kernel
theorem dX1_make_73 : decode cX1_make 73 = .ok (.getfield 42, 3) := by decide +kernel
theorem dX1_make_76 : decode cX1_make 76 = .ok (.invokevirtual 86, 3) := by decide +kernel
theorem dX1_make_79 : decode cX1_make 79 = .ok (.putfield 42, 3) := by decide +kernel
theorem dX1_make_82 : decode cX1_make 82 = .ok (.aload_n 0, 1) := by decide +kernel
theorem dX1_make_83 : decode cX1_make 83 = .ok (.aload_n 0, 1) := by decide +kernel
theorem dX1_make_84 : decode cX1_make 84 = .ok (.getfield 42, 3) := by decide +kernel
theorem dX1_make_87 : decode cX1_make 87 = .ok (.invokevirtual 118, 3) := by decide +kernel
theorem dX1_make_90 : decode cX1_make 90 = .ok (.aload_n 0, 1) := by decide +kernel
theorem dX1_make_91 : decode cX1_make 91 = .ok (.dup, 1) := by decide +kernel
theorem dX1_make_92 : decode cX1_make 92 = .ok (.getfield 68, 3) := by decide +kernel
theorem dX1_make_95 : decode cX1_make 95 = .ok (.iload_n 1, 1) := by decide +kernel
theorem dX1_make_96 : decode cX1_make 96 = .ok (.iadd, 1) := by decide +kernel
theorem dX1_make_97 : decode cX1_make 97 = .ok (.putfield 68, 3) := by decide +kernel
theorem dX1_make_100 : decode cX1_make 100 = .ok (.aload_n 0, 1) := by decide +kernel
theorem dX1_make_101 : decode cX1_make 101 = .ok (.invokevirtual 121, 3) := by decide +kernel
theorem dX1_make_104 : decode cX1_make 104 = .ok (.aload_n 0, 1) := by decide +kernel
theorem dX1_make_105 : decode cX1_make 105 = .ok (.dup, 1) := by decide +kernel
theorem dX1_make_106 : decode cX1_make 106 = .ok (.getfield 65, 3) := by decide +kernel
theorem dX1_make_109 : decode cX1_make 109 = .ok (.iload_n 1, 1) := by decide +kernel
theorem dX1_make_110 : decode cX1_make 110 = .ok (.isub, 1) := by decide +kernel
theorem dX1_make_111 : decode cX1_make 111 = .ok (.putfield 65, 3) := by decide +kernel
theorem dX1_make_114 : decode cX1_make 114 = .ok (.aload_n 0, 1) := by decide +kernel
theorem dX1_make_115 : decode cX1_make 115 = .ok (.getfield 65, 3) := by decide +kernel
theorem dX1_make_118 : decode cX1_make 118 = .ok (.ireturn, 1) := by decide +kernel
def wp_X1_make : List Cond := .code yX1_make cX1_make 2 (some .int) :: ((((((([.fieldLink RX1 68 "SteadyMachine$Heap" "made" "I", .fieldLink RX1 65 "SteadyMachine$Heap" "fresh" "I", .fieldLink RX1 39 "SteadyMachine$Heap" "cycles" "I", .fieldLink RX1 42 "SteadyMachine$Heap" "top" "I", .fieldLink RX1 30 "SteadyMachine$Heap" "limit" "I", .fieldLink RX1 56 "SteadyMachine$Heap" "base" "I", .fieldLink RX1 23 "SteadyMachine$Heap" "half" "I"] ++ (wsV RX1 121 RX1 yX1_moveOn wp_X1_moveOn)) ++ (wsV RX1 52 RX1 yX1_useHalf wp_X1_useHalf)) ++ (wsV RX1 86 RX1 yX1_move wp_X1_move)) ++ (wsV RX1 118 RX1 yX1_settle wp_X1_settle)) ++ (wsV RX1 114 RX1 yX1_isDone wp_X1_isDone)) ++ (wsV RX1 71 RX1 yX1_moved wp_X1_moved)) ++ wsX10)
theorem wq_X1_make : wp_X1_make.all goodWord = true := wa_c rfl (wa_a (wa_a (wa_a (wa_a (wa_a (wa_a (wa_a (by decide +kernel) (wa_V wq_X1_moveOn)) (wa_V wq_X1_useHalf)) (wa_V wq_X1_move)) (wa_V wq_X1_settle)) (wa_V wq_X1_isDone)) (wa_V wq_X1_moved)) uq_X1)
theorem wt_X1_make : GoodIn lw_tbl wp_X1_make := wm_c (List.mem_of_getElem? (i := 888) (by decide +kernel)) rfl (wm_a (wm_a (wm_a (wm_a (wm_a (wm_a (wm_a (goodIn_r _ [458, 454, 460, 464, 456, 451, 450] (by decide +kernel) (by decide +kernel)) (wm_a (goodIn_r _ [926, 928, 39, 144] (by decide +kernel) (by decide +kernel)) wt_X1_moveOn)) (wm_a (goodIn_r _ [869, 871, 35, 144] (by decide +kernel) (by decide +kernel)) wt_X1_useHalf)) (wm_a (goodIn_r _ [897, 899, 37, 144] (by decide +kernel) (by decide +kernel)) wt_X1_move)) (wm_a (goodIn_r _ [902, 903, 904, 144] (by decide +kernel) (by decide +kernel)) wt_X1_settle)) (wm_a (goodIn_r _ [889, 890, 891, 144] (by decide +kernel) (by decide +kernel)) wt_X1_isDone)) (wm_a (goodIn_r _ [893, 894, 895, 144] (by decide +kernel) (by decide +kernel)) wt_X1_moved)) ut_X1)
theorem wg_X1_make_X1_moveOn_121 : GoodIn wp_X1_make (wsV RX1 121 RX1 yX1_moveOn wp_X1_moveOn) := goodIn_sub (fun w h => List.mem_cons_of_mem _ (List.mem_append_left _ (List.mem_append_left _ (List.mem_append_left _ (List.mem_append_left _ (List.mem_append_left _ (List.mem_append_left _ (List.mem_append_right _ h)))))))) (wa_V wq_X1_moveOn)
theorem wg_X1_make_X1_useHalf_52 : GoodIn wp_X1_make (wsV RX1 52 RX1 yX1_useHalf wp_X1_useHalf) := goodIn_sub (fun w h => List.mem_cons_of_mem _ (List.mem_append_left _ (List.mem_append_left _ (List.mem_append_left _ (List.mem_append_left _ (List.mem_append_left _ (List.mem_append_right _ h))))))) (wa_V wq_X1_useHalf)
theorem wg_X1_make_X1_move_86 : GoodIn wp_X1_make (wsV RX1 86 RX1 yX1_move wp_X1_move) := goodIn_sub (fun w h => List.mem_cons_of_mem _ (List.mem_append_left _ (List.mem_append_left _ (List.mem_append_left _ (List.mem_append_left _ (List.mem_append_right _ h)))))) (wa_V wq_X1_move)
theorem wg_X1_make_X1_settle_118 : GoodIn wp_X1_make (wsV RX1 118 RX1 yX1_settle wp_X1_settle) := goodIn_sub (fun w h => List.mem_cons_of_mem _ (List.mem_append_left _ (List.mem_append_left _ (List.mem_append_left _ (List.mem_append_right _ h))))) (wa_V wq_X1_settle)
theorem wg_X1_make_X1_isDone_114 : GoodIn wp_X1_make (wsV RX1 114 RX1 yX1_isDone wp_X1_isDone) := goodIn_sub (fun w h => List.mem_cons_of_mem _ (List.mem_append_left _ (List.mem_append_left _ (List.mem_append_right _ h)))) (wa_V wq_X1_isDone)
theorem wg_X1_make_X1_moved_71 : GoodIn wp_X1_make (wsV RX1 71 RX1 yX1_moved wp_X1_moved) := goodIn_sub (fun w h => List.mem_cons_of_mem _ (List.mem_append_left _ (List.mem_append_right _ h))) (wa_V wq_X1_moved)
theorem wi_X1_make_X1 : ∀ w ∈ wsX10, w ∈ wp_X1_make := fun w h => List.mem_cons_of_mem _ (List.mem_append_right _ h)
set_option maxHeartbeats 4000000 in
set_option maxRecDepth 100000 in
theorem c_X1_make (l : Launch) (D : va_G) (sz t0 : Nat) (σ : sm_S) (α : sm_A) (p1 : Int32) (K : Int32 → sm_S → Prop) (hF : mp_X1_make σ p1 K) : Met l yX1_make wp_X1_make { frames := 3, cells := 0, slots := 0, locals := 72 } (sm_P sm_wX sm_tX 37 D sz t0 σ α [.ref (α.1 1), .int p1]) (va_Qi K (sm_B sm_wX D α) (sm_a α 37 sz)) 0 0 (sm_a α 37 sz) := by
  refine Met.ofW (cc := cX1_make) (maxL := 2) (ret := (some .int)) (by decide) rfl ?_
  intro p e s m args below meth c s₁ B hml hv
  obtain ⟨rfl, hsz, hP, hK, hD0, hE⟩ := hv
  have hx := B.exec
  have hb := B.bytes
  have hr := B.returns
  have hts := atoms_spec (ws := wp_X1_make) B.pre
  have hown : s.vm.findClass RX1 = some m.cls := findClass_of_methodNamed B.named
  have hlocks := B.notSynchronized
  subst hsz
  have hD : sm_D (sm_a α 37 s.heap.size) α 37 := hD0.own
  have hA : ∀ q : Nat, s.heap.size ≤ q → sm_a α 37 s.heap.size q := fun q h => Or.inr h
  generalize hAe : sm_a α 37 s.heap.size = A at hD hA hE ⊢
  have hS : va_S A s.heap s.heap [] := va_S.rf
  have in_X1 : ∀ w ∈ wsX10, w ∈ wp_X1_make := wi_X1_make_X1
  have k_0 := hts (.fieldLink RX1 68 "SteadyMachine$Heap" "made" "I") (by decide +kernel)
  have k_1 := hts (.fieldLink RX1 65 "SteadyMachine$Heap" "fresh" "I") (by decide +kernel)
  have k_2 := hts (.fieldLink RX1 39 "SteadyMachine$Heap" "cycles" "I") (by decide +kernel)
  have k_3 := hts (.fieldLink RX1 42 "SteadyMachine$Heap" "top" "I") (by decide +kernel)
  have k_4 := hts (.fieldLink RX1 30 "SteadyMachine$Heap" "limit" "I") (by decide +kernel)
  have k_5 := hts (.fieldLink RX1 56 "SteadyMachine$Heap" "base" "I") (by decide +kernel)
  have k_6 := hts (.fieldLink RX1 23 "SteadyMachine$Heap" "half" "I") (by decide +kernel)
  have hl := lv_entry ([.ref (α.1 1), .int p1]) (n := 2) (Nat.le_of_ble_eq_true rfl)
  rw [lg_entry_eq]
  generalize (lg_sl ([.ref (α.1 1), .int p1]) ++ List.replicate (2 - (lg_sl ([.ref (α.1 1), .int p1])).length) Slot.unset).toArray = ls at hl ⊢
  have hl : lv_has ls 2 [(0, .ref (α.1 1)), (1, .int p1)] := hl
  have B90 : ∀ (σ : sm_S) (x1 : Int32), mp_X1_make_90 K σ x1 → sm_J p l e (headSpec wp_X1_make { frames := 3, cells := 0, slots := 0, locals := 72 }).room s m ([.ref (α.1 1), .int p1] : List Value).toArray below meth c (MQ below (va_Qi K (sm_B sm_wX D α) A) ([.ref (α.1 1), .int p1] : List Value).toArray s 0 0 A) D A 2 (sm_wX σ α) 90 [(0, .ref (α.1 1)), (1, .int x1)] [] := by
    intro σ x1 hF H locs ls hP hS hl
    unfold mp_X1_make_90 at hF
    refine lv_aload_n hx hb dX1_make_90 rfl (lv_at hl 0 rfl) ?_
    refine lv_dup hx hb dX1_make_91 rfl ?_
    refine va_get (D := D) (ci := 1) (v := .int (σ.1 8)) (C := RX1) (T := TX1) (N := 16) hx hb hts in_X1 hown hK hP 1 (sm_gX1 σ α) rfl 10 (by decide) k_0 (fun _ h9 => h9) rfl dX1_make_92 ?_
    refine lv_iload_n hx hb dX1_make_95 rfl (lv_at hl 1 rfl) ?_
    refine lv_iadd hx hb dX1_make_96 ?_
    refine va_put (D := D) (ci := 1) (v := .int ((σ.1 8) + x1)) (ty := .int) (C := RX1) (T := TX1) (N := 16) hx hb hts in_X1 tyX1 tyX1_ok nmX1 hown hK hP (hD.to (sm_wX_m _ _)) hS 1 (sm_gX1 σ α) rfl 10 (by decide) k_0 (fun _ h9 => h9) rfl (by decide +kernel) rfl rfl (Nat.le_of_ble_eq_true rfl) dX1_make_97 (fun H locs hP _ hS => ?_)
    rw [sm_iX8] at hP
    obtain ⟨σ1, eσ1⟩ : ∃ x : sm_S, x = sm_i σ 8 ((σ.1 8) + x1) := ⟨_, rfl⟩
    replace hF := hF σ1 eσ1
    rw [← eσ1] at hP
    refine lv_aload_n hx hb dX1_make_100 rfl (lv_at hl 0 rfl) ?_
    refine sm_vv (As := []) (rest := []) hP hK hD hE hS hA ⟨hx, hb, hml, hown, hts⟩ hl.1 (c_X1_moveOn l D H.size t0 σ1 α _ hF) (cwV 0 hts wg_X1_make_X1_moveOn_121 rfl rfl rfl (by decide +kernel) ⟨Nat.le_of_ble_eq_true rfl, Nat.le_of_ble_eq_true rfl⟩) (va_recv hK hP (ci := 1) (q0 := 1) rfl (sm_gX1 σ1 α)) rfl rfl (Nat.le_of_ble_eq_true rfl) dX1_make_101 ⟨Nat.zero_le _, Nat.zero_le _⟩ (fun σ2 H locs hF hP hS => ?_)
    refine lv_aload_n hx hb dX1_make_104 rfl (lv_at hl 0 rfl) ?_
    refine lv_dup hx hb dX1_make_105 rfl ?_
    refine va_get (D := D) (ci := 1) (v := .int (σ2.1 5)) (C := RX1) (T := TX1) (N := 16) hx hb hts in_X1 hown hK hP 1 (sm_gX1 σ2 α) rfl 7 (by decide) k_1 (fun _ h9 => h9) rfl dX1_make_106 ?_
    refine lv_iload_n hx hb dX1_make_109 rfl (lv_at hl 1 rfl) ?_
    refine lv_isub hx hb dX1_make_110 ?_
    refine va_put (D := D) (ci := 1) (v := .int ((σ2.1 5) - x1)) (ty := .int) (C := RX1) (T := TX1) (N := 16) hx hb hts in_X1 tyX1 tyX1_ok nmX1 hown hK hP (hD.to (sm_wX_m _ _)) hS 1 (sm_gX1 σ2 α) rfl 7 (by decide) k_1 (fun _ h9 => h9) rfl (by decide +kernel) rfl rfl (Nat.le_of_ble_eq_true rfl) dX1_make_111 (fun H locs hP _ hS => ?_)
    rw [sm_iX5] at hP
    obtain ⟨σ3, eσ3⟩ : ∃ x : sm_S, x = sm_i σ2 5 ((σ2.1 5) - x1) := ⟨_, rfl⟩
    replace hF := hF σ3 eσ3
    rw [← eσ3] at hP
    refine lv_aload_n hx hb dX1_make_114 rfl (lv_at hl 0 rfl) ?_
    refine va_get (D := D) (ci := 1) (v := .int (σ3.1 5)) (C := RX1) (T := TX1) (N := 16) hx hb hts in_X1 hown hK hP 1 (sm_gX1 σ3 α) rfl 7 (by decide) k_1 (fun _ h9 => h9) rfl dX1_make_115 ?_
    exact W.iret (v := (σ3.1 5)) hx hb hr (fun t ht hW => ⟨⟨(σ3.1 5), σ3, rfl, hF, (by unfold sm_B; rw [ht]; exact hP)⟩, hS.F ht⟩) hS.2.2 dX1_make_118
  have B57 : ∀ (σ : sm_S) (x1 : Int32) (y1 : Int32), mp_X1_make_57 K σ x1 y1 → sm_J p l e (headSpec wp_X1_make { frames := 3, cells := 0, slots := 0, locals := 72 }).room s m ([.ref (α.1 1), .int p1] : List Value).toArray below meth c (MQ below (va_Qi K (sm_B sm_wX D α) A) ([.ref (α.1 1), .int p1] : List Value).toArray s 0 0 A) D A 2 (sm_wX σ α) 57 [(0, .ref (α.1 1)), (1, .int x1)] [.int y1, .ref (α.1 1)] := by
    intro σ x1 y1 hF H locs ls hP hS hl
    unfold mp_X1_make_57 at hF
    refine sm_vv (As := [.int y1]) (rest := []) hP hK hD hE hS hA ⟨hx, hb, hml, hown, hts⟩ hl.1 (c_X1_useHalf l D H.size t0 σ α y1 _ hF) (cwV 1 hts wg_X1_make_X1_useHalf_52 rfl rfl rfl (by decide +kernel) ⟨Nat.le_of_ble_eq_true rfl, Nat.le_of_ble_eq_true rfl⟩) (va_recv hK hP (ci := 1) (q0 := 1) rfl (sm_gX1 σ α)) rfl rfl (Nat.le_of_ble_eq_true rfl) dX1_make_57 ⟨Nat.zero_le _, Nat.zero_le _⟩ (fun σ4 H locs hF hP hS => ?_)
    refine lv_aload_n hx hb dX1_make_60 rfl (lv_at hl 0 rfl) ?_
    refine lv_dup hx hb dX1_make_61 rfl ?_
    refine va_get (D := D) (ci := 1) (v := .int (σ4.1 9)) (C := RX1) (T := TX1) (N := 16) hx hb hts in_X1 hown hK hP 1 (sm_gX1 σ4 α) rfl 11 (by decide) k_2 (fun _ h9 => h9) rfl dX1_make_62 ?_
    refine lv_iconst (v := 1) hx hb dX1_make_65 (by decide) ?_
    refine lv_iadd hx hb dX1_make_66 ?_
    refine va_put (D := D) (ci := 1) (v := .int ((σ4.1 9) + 1)) (ty := .int) (C := RX1) (T := TX1) (N := 16) hx hb hts in_X1 tyX1 tyX1_ok nmX1 hown hK hP (hD.to (sm_wX_m _ _)) hS 1 (sm_gX1 σ4 α) rfl 11 (by decide) k_2 (fun _ h9 => h9) rfl (by decide +kernel) rfl rfl (Nat.le_of_ble_eq_true rfl) dX1_make_67 (fun H locs hP _ hS => ?_)
    rw [sm_iX9] at hP
    obtain ⟨σ5, eσ5⟩ : ∃ x : sm_S, x = sm_i σ4 9 ((σ4.1 9) + 1) := ⟨_, rfl⟩
    replace hF := hF σ5 eσ5
    rw [← eσ5] at hP
    refine lv_aload_n hx hb dX1_make_70 rfl (lv_at hl 0 rfl) ?_
    refine lv_aload_n hx hb dX1_make_71 rfl (lv_at hl 0 rfl) ?_
    refine lv_aload_n hx hb dX1_make_72 rfl (lv_at hl 0 rfl) ?_
    refine va_get (D := D) (ci := 1) (v := .int (σ5.1 10)) (C := RX1) (T := TX1) (N := 16) hx hb hts in_X1 hown hK hP 1 (sm_gX1 σ5 α) rfl 12 (by decide) k_3 (fun _ h9 => h9) rfl dX1_make_73 ?_
    refine sm_vi (As := [.int (σ5.1 10)]) (rest := [.ref (α.1 1)]) hP hK hD hE hS hA ⟨hx, hb, hml, hown, hts⟩ hl.1 (c_X1_move l D H.size t0 σ5 α (σ5.1 10) _ hF) (cwV 1 hts wg_X1_make_X1_move_86 rfl rfl rfl (by decide +kernel) ⟨Nat.le_of_ble_eq_true rfl, Nat.le_of_ble_eq_true rfl⟩) (va_recv hK hP (ci := 1) (q0 := 1) rfl (sm_gX1 σ5 α)) rfl rfl (Nat.le_of_ble_eq_true rfl) dX1_make_76 ⟨Nat.zero_le _, Nat.zero_le _⟩ (fun r7 σ6 H locs hF hP hS => ?_)
    refine va_put (D := D) (ci := 1) (v := .int r7) (ty := .int) (C := RX1) (T := TX1) (N := 16) hx hb hts in_X1 tyX1 tyX1_ok nmX1 hown hK hP (hD.to (sm_wX_m _ _)) hS 1 (sm_gX1 σ6 α) rfl 12 (by decide) k_3 (fun _ h9 => h9) rfl (by decide +kernel) rfl rfl (Nat.le_of_ble_eq_true rfl) dX1_make_79 (fun H locs hP _ hS => ?_)
    rw [sm_iX10] at hP
    obtain ⟨σ8, eσ8⟩ : ∃ x : sm_S, x = sm_i σ6 10 r7 := ⟨_, rfl⟩
    replace hF := hF σ8 eσ8
    rw [← eσ8] at hP
    refine lv_aload_n hx hb dX1_make_82 rfl (lv_at hl 0 rfl) ?_
    refine lv_aload_n hx hb dX1_make_83 rfl (lv_at hl 0 rfl) ?_
    refine va_get (D := D) (ci := 1) (v := .int (σ8.1 10)) (C := RX1) (T := TX1) (N := 16) hx hb hts in_X1 hown hK hP 1 (sm_gX1 σ8 α) rfl 12 (by decide) k_3 (fun _ h9 => h9) rfl dX1_make_84 ?_
    refine sm_vv (As := [.int (σ8.1 10)]) (rest := []) hP hK hD hE hS hA ⟨hx, hb, hml, hown, hts⟩ hl.1 (c_X1_settle l D H.size t0 σ8 α (σ8.1 10) _ hF) (cwV 1 hts wg_X1_make_X1_settle_118 rfl rfl rfl (by decide +kernel) ⟨Nat.le_of_ble_eq_true rfl, Nat.le_of_ble_eq_true rfl⟩) (va_recv hK hP (ci := 1) (q0 := 1) rfl (sm_gX1 σ8 α)) rfl rfl (Nat.le_of_ble_eq_true rfl) dX1_make_87 ⟨Nat.zero_le _, Nat.zero_le _⟩ (fun σ9 H locs hF hP hS => ?_)
    exact B90 σ9 x1 hF H locs ls hP hS (lv_sub hl [0, 1] rfl)
  unfold mp_X1_make at hF
  revert hP hS
  generalize hLo : ([] : List Loc) = locs
  suffices h9 : ∀ (H : Heap) (locs : List Loc), va_P D vwCl (sm_wX σ α) H → va_S A s.heap H locs → W p l e (headSpec wp_X1_make { frames := 3, cells := 0, slots := 0, locals := 72 }).room s m ([.ref (α.1 1), .int p1] : List Value).toArray below meth c H locs 0 0 (MQ below (va_Qi K (sm_B sm_wX D α) A) ([.ref (α.1 1), .int p1] : List Value).toArray s 0 0 A) (F0 m 0 ls []) from fun hP hS => h9 s.heap locs hP hS
  intro H locs hP hS
  refine lv_aload_n hx hb dX1_make_0 rfl (lv_at hl 0 rfl) ?_
  refine sm_vi (As := []) (rest := []) hP hK hD hE hS hA ⟨hx, hb, hml, hown, hts⟩ hl.1 (c_X1_isDone l D H.size t0 σ α _ hF) (cwV 0 hts wg_X1_make_X1_isDone_114 rfl rfl rfl (by decide +kernel) ⟨Nat.le_of_ble_eq_true rfl, Nat.le_of_ble_eq_true rfl⟩) (va_recv hK hP (ci := 1) (q0 := 1) rfl (sm_gX1 σ α)) rfl rfl (Nat.le_of_ble_eq_true rfl) dX1_make_1 ⟨Nat.zero_le _, Nat.zero_le _⟩ (fun r11 σ10 H locs hF hP hS => ?_)
  refine lv_if_eq (tgt := 90) hx hb dX1_make_4 (by decide) (fun h12 => ?_) (fun h12 => ?_)
  · replace hF := hF.1 h12
    exact B90 σ10 p1 hF H locs ls hP hS (lv_sub hl [0, 1] rfl)
  · replace hF := hF.2 h12
    refine lv_aload_n hx hb dX1_make_7 rfl (lv_at hl 0 rfl) ?_
    refine sm_vi (As := []) (rest := []) hP hK hD hE hS hA ⟨hx, hb, hml, hown, hts⟩ hl.1 (c_X1_moved l D H.size t0 σ10 α _ hF) (cwV 0 hts wg_X1_make_X1_moved_71 rfl rfl rfl (by decide +kernel) ⟨Nat.le_of_ble_eq_true rfl, Nat.le_of_ble_eq_true rfl⟩) (va_recv hK hP (ci := 1) (q0 := 1) rfl (sm_gX1 σ10 α)) rfl rfl (Nat.le_of_ble_eq_true rfl) dX1_make_8 ⟨Nat.zero_le _, Nat.zero_le _⟩ (fun r14 σ13 H locs hF hP hS => ?_)
    refine lv_aload_n hx hb dX1_make_11 rfl (lv_at hl 0 rfl) ?_
    refine va_get (D := D) (ci := 1) (v := .int (σ13.1 7)) (C := RX1) (T := TX1) (N := 16) hx hb hts in_X1 hown hK hP 1 (sm_gX1 σ13 α) rfl 9 (by decide) k_4 (fun _ h9 => h9) rfl dX1_make_12 ?_
    refine lv_icmp_le (tgt := 20) hx hb dX1_make_15 (by decide) (fun h15 => ?_) (fun h15 => ?_)
    · replace hF := hF.1 h15
      refine lv_aload_n hx hb dX1_make_20 rfl (lv_at hl 0 rfl) ?_
      refine sm_vi (As := []) (rest := []) hP hK hD hE hS hA ⟨hx, hb, hml, hown, hts⟩ hl.1 (c_X1_moved l D H.size t0 σ13 α _ hF) (cwV 0 hts wg_X1_make_X1_moved_71 rfl rfl rfl (by decide +kernel) ⟨Nat.le_of_ble_eq_true rfl, Nat.le_of_ble_eq_true rfl⟩) (va_recv hK hP (ci := 1) (q0 := 1) rfl (sm_gX1 σ13 α)) rfl rfl (Nat.le_of_ble_eq_true rfl) dX1_make_21 ⟨Nat.zero_le _, Nat.zero_le _⟩ (fun r17 σ16 H locs hF hP hS => ?_)
      refine lv_aload_n hx hb dX1_make_24 rfl (lv_at hl 0 rfl) ?_
      refine va_get (D := D) (ci := 1) (v := .int (σ16.1 8)) (C := RX1) (T := TX1) (N := 16) hx hb hts in_X1 hown hK hP 1 (sm_gX1 σ16 α) rfl 10 (by decide) k_0 (fun _ h9 => h9) rfl dX1_make_25 ?_
      refine lv_iadd hx hb dX1_make_28 ?_
      refine lv_iload_n hx hb dX1_make_29 rfl (lv_at hl 1 rfl) ?_
      refine lv_iadd hx hb dX1_make_30 ?_
      refine lv_aload_n hx hb dX1_make_31 rfl (lv_at hl 0 rfl) ?_
      refine va_get (D := D) (ci := 1) (v := .int (σ16.1 7)) (C := RX1) (T := TX1) (N := 16) hx hb hts in_X1 hown hK hP 1 (sm_gX1 σ16 α) rfl 9 (by decide) k_4 (fun _ h9 => h9) rfl dX1_make_32 ?_
      refine lv_icmp_le (tgt := 90) hx hb dX1_make_35 (by decide) (fun h18 => ?_) (fun h18 => ?_)
      · replace hF := hF.1 h18
        exact B90 σ16 p1 hF H locs ls hP hS (lv_sub hl [0, 1] rfl)
      · replace hF := hF.2 h18
        refine lv_aload_n hx hb dX1_make_38 rfl (lv_at hl 0 rfl) ?_
        refine lv_aload_n hx hb dX1_make_39 rfl (lv_at hl 0 rfl) ?_
        refine va_get (D := D) (ci := 1) (v := .int (σ16.1 2)) (C := RX1) (T := TX1) (N := 16) hx hb hts in_X1 hown hK hP 1 (sm_gX1 σ16 α) rfl 4 (by decide) k_5 (fun _ h9 => h9) rfl dX1_make_40 ?_
        refine lv_iconst (v := 1) hx hb dX1_make_43 (by decide) ?_
        refine lv_icmp_ne (tgt := 56) hx hb dX1_make_44 (by decide) (fun h19 => ?_) (fun h19 => ?_)
        · replace hF := hF.1 h19
          refine lv_iconst (v := 1) hx hb dX1_make_56 (by decide) ?_
          exact B57 σ16 p1 1 hF H locs ls hP hS (lv_sub hl [0, 1] rfl)
        · replace hF := hF.2 h19
          refine lv_iconst (v := 1) hx hb dX1_make_47 (by decide) ?_
          refine lv_aload_n hx hb dX1_make_48 rfl (lv_at hl 0 rfl) ?_
          refine va_get (D := D) (ci := 1) (v := .int (σ16.1 1)) (C := RX1) (T := TX1) (N := 16) hx hb hts in_X1 hown hK hP 1 (sm_gX1 σ16 α) rfl 3 (by decide) k_6 (fun _ h9 => h9) rfl dX1_make_49 ?_
          refine lv_iadd hx hb dX1_make_52 ?_
          refine lv_goto (tgt := 57) hx hb dX1_make_53 (by decide) ?_
          exact B57 σ16 p1 (1 + (σ16.1 1)) hF H locs ls hP hS (lv_sub hl [0, 1] rfl)
    · replace hF := hF.2 h15
      refine lv_iconst (v := 0) hx hb dX1_make_18 (by decide) ?_
      exact W.iret (v := 0) hx hb hr (fun t ht hW => ⟨⟨0, σ13, rfl, hF, (by unfold sm_B; rw [ht]; exact hP)⟩, hS.F ht⟩) hS.2.2 dX1_make_19
