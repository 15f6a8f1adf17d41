theorem dX11_feed_0 : decode cX11_feed 0 = .ok (.aload_n 0, 1) := by decide +kernel
theorem dX11_feed_1 : decode cX11_feed 1 = .ok (.getfield 70, 3) := by decide +kernel
theorem dX11_feed_4 : decode cX11_feed 4 = .ok (.bipush 20, 2) := by decide +kernel
theorem dX11_feed_6 : decode cX11_feed 6 = .ok (.iadd, 1) := by decide +kernel
theorem dX11_feed_7 : decode cX11_feed 7 = .ok (.sipush 8000, 3) := by decide +kernel
theorem dX11_feed_10 : decode cX11_feed 10 = .ok (.if_icmp .le 6, 3) := by decide +kernel
theorem dX11_feed_13 : decode cX11_feed 13 = .ok (.bipush (-2), 2) := by decide +kernel
theorem dX11_feed_15 : decode cX11_feed 15 = .ok (.ireturn, 1) := by decide +kernel
theorem dX11_feed_16 : decode cX11_feed 16 = .ok (.iconst 0, 1) := by decide +kernel
theorem dX11_feed_17 : decode cX11_feed 17 = .ok (.istore 6, 2) := by decide +kernel
theorem dX11_feed_19 : decode cX11_feed 19 = .ok (.iload 6, 2) := by decide +kernel
theorem dX11_feed_21 : decode cX11_feed 21 = .ok (.bipush 20, 2) := by decide +kernel
theorem dX11_feed_23 : decode cX11_feed 23 = .ok (.if_icmp .ge 93, 3) := by decide +kernel
theorem dX11_feed_26 : decode cX11_feed 26 = .ok (.iload 6, 2) := by decide +kernel
theorem dX11_feed_28 : decode cX11_feed 28 = .ok (.iconst 4, 1) := by decide +kernel
theorem dX11_feed_29 : decode cX11_feed 29 = .ok (.if_icmp .ge 7, 3) := by decide +kernel
theorem dX11_feed_32 : decode cX11_feed 32 = .ok (.iload_n 1, 1) := by decide +kernel
theorem dX11_feed_33 : decode cX11_feed 33 = .ok (.goto 39, 3) := by decide +kernel
theorem dX11_feed_36 : decode cX11_feed 36 = .ok (.iload 6, 2) := by decide +kernel
theorem dX11_feed_38 : decode cX11_feed 38 = .ok (.bipush 8, 2) := by decide +kernel
theorem dX11_feed_40 : decode cX11_feed 40 = .ok (.if_icmp .ge 7, 3) := by decide +kernel
theorem dX11_feed_43 : decode cX11_feed 43 = .ok (.iload_n 2, 1) := by decide +kernel
theorem dX11_feed_44 : decode cX11_feed 44 = .ok (.goto 28, 3) := by decide +kernel
theorem dX11_feed_47 : decode cX11_feed 47 = .ok (.iload 6, 2) := by decide +kernel
theorem dX11_feed_49 : decode cX11_feed 49 = .ok (.bipush 12, 2) := by decide +kernel
theorem dX11_feed_51 : decode cX11_feed 51 = .ok (.if_icmp .ge 7, 3) := by decide +kernel
theorem dX11_feed_54 : decode cX11_feed 54 = .ok (.iload_n 3, 1) := by decide +kernel
theorem dX11_feed_55 : decode cX11_feed 55 = .ok (.goto 17, 3) := by decide +kernel
theorem dX11_feed_58 : decode cX11_feed 58 = .ok (.iload 6, 2) := by decide +kernel
theorem dX11_feed_60 : decode cX11_feed 60 = .ok (.bipush 16, 2) := by decide +kernel
theorem dX11_feed_62 : decode cX11_feed 62 = .ok (.if_icmp .ge 8, 3) := by decide +kernel
theorem dX11_feed_65 : decode cX11_feed 65 = .ok (.iload 4, 2) := by decide +kernel
theorem dX11_feed_67 : decode cX11_feed 67 = .ok (.goto 5, 3) := by decide +kernel
theorem dX11_feed_70 : decode cX11_feed 70 = .ok (.iload 5, 2) := by decide +kernel
theorem dX11_feed_72 : decode cX11_feed 72 = .ok (.istore 7, 2) := by decide +kernel
theorem dX11_feed_74 : decode cX11_feed 74 = .ok (.aload_n 0, 1) := by decide +kernel
theorem dX11_feed_75 : decode cX11_feed 75 = .ok (.getfield 11, 3) := by decide +kernel
theorem dX11_feed_78 : decode cX11_feed 78 = .ok (.aload_n 0, 1) := by decide +kernel
theorem dX11_feed_79 : decode cX11_feed 79 = .ok (.getfield 70, 3) := by decide +kernel
theorem dX11_feed_82 : decode cX11_feed 82 = .ok (.iload 7, 2) := by decide +kernel
theorem dX11_feed_84 : decode cX11_feed 84 = .ok (.bipush 24, 2) := by decide +kernel
theorem dX11_feed_86 : decode cX11_feed 86 = .ok (.bipush 8, 2) := by decide +kernel
theorem dX11_feed_88 : decode cX11_feed 88 = .ok (.iload 6, 2) := by decide +kernel
theorem dX11_feed_90 : decode cX11_feed 90 = .ok (.iconst 3, 1) := by decide +kernel
theorem dX11_feed_91 : decode cX11_feed 91 = .ok (.iand, 1) := by decide +kernel
theorem dX11_feed_92 : decode cX11_feed 92 = .ok (.imul, 1) := by decide +kernel
theorem dX11_feed_93 : decode cX11_feed 93 = .ok (.isub, 1) := by decide +kernel
theorem dX11_feed_94 : decode cX11_feed 94 = .ok (.iushr, 1) := by decide +kernel
theorem dX11_feed_95 : decode cX11_feed 95 = .ok (.sipush 255, 3) := by decide +kernel
theorem dX11_feed_98 : decode cX11_feed 98 = .ok (.iand, 1) := by decide +kernel
theorem dX11_feed_99 : decode cX11_feed 99 = .ok (.iastore, 1) := by decide +kernel
theorem dX11_feed_100 : decode cX11_feed 100 = .ok (.aload_n 0, 1) := by decide +kernel
theorem dX11_feed_101 : decode cX11_feed 101 = .ok (.dup, 1) := by decide +kernel
theorem dX11_feed_102 : decode cX11_feed 102 = .ok (.getfield 70, 3) := by decide +kernel
theorem dX11_feed_105 : decode cX11_feed 105 = .ok (.iconst 1, 1) := by decide +kernel
theorem dX11_feed_106 : decode cX11_feed 106 = .ok (.iadd, 1) := by decide +kernel
theorem dX11_feed_107 : decode cX11_feed 107 = .ok (.putfield 70, 3) := by decide +kernel
theorem dX11_feed_110 : decode cX11_feed 110 = .ok (.iinc 6 1, 3) := by decide +kernel
theorem dX11_feed_113 : decode cX11_feed 113 = .ok (.goto (-94), 3) := by decide +kernel
theorem dX11_feed_116 : decode cX11_feed 116 = .ok (.aload_n 0, 1) := by decide +kernel
theorem dX11_feed_117 : decode cX11_feed 117 = .ok (.getfield 70, 3) := by decide +kernel
theorem dX11_feed_120 : decode cX11_feed 120 = .ok (.ireturn, 1) := by decide +kernel
def wp_X11_feed : List Cond := .code yX11_feed cX11_feed 8 (some .int) :: ([.fieldLink RX11 11 "SteadyMachineModel$Image" "tape" "[I", .fieldLink RX11 70 "SteadyMachineModel$Image" "taped" "I"] ++ wsX110)
theorem wq_X11_feed : wp_X11_feed.all goodWord = true := wa_c rfl (wa_a (by decide +kernel) uq_X11)
theorem wt_X11_feed : GoodIn lw_tbl wp_X11_feed := wm_c (List.mem_of_getElem? (i := 1198) (by decide +kernel)) rfl (wm_a (goodIn_r _ [1381, 1382] (by decide +kernel) (by decide +kernel)) ut_X11)
theorem wi_X11_feed_X11 : ∀ w ∈ wsX110, w ∈ wp_X11_feed := fun w h => List.mem_cons_of_mem _ (List.mem_append_right _ h)
set_option maxHeartbeats 4000000 in
set_option maxRecDepth 100000 in
theorem c_X11_feed (l : Launch) (D : va_G) (sz t0 : Nat) (σ : sm_S) (α : sm_A) (p1 : Int32) (p2 : Int32) (p3 : Int32) (p4 : Int32) (p5 : Int32) (K : Int32 → sm_S → Prop) (hF : mp_X11_feed σ p1 p2 p3 p4 p5 K) : Met l yX11_feed wp_X11_feed { frames := 0, cells := 0, slots := 0, locals := 0 } (sm_P sm_wM sm_tM 40 D sz t0 σ α [.ref (α.1 0), .int p1, .int p2, .int p3, .int p4, .int p5]) (va_Qi K (sm_B sm_wM D α) (sm_a α 40 sz)) 0 0 (sm_a α 40 sz) := by
  refine Met.ofW (cc := cX11_feed) (maxL := 8) (ret := (some .int)) (by decide) rfl ?_
  intro p e s m args below meth c s₁ B hml hv
  obtain ⟨rfl, hsz, hP, hK, hD0, hE⟩ := hv
  have hx := B.exec
  have hb := B.bytes
  have hr := B.returns
  have hts := atoms_spec (ws := wp_X11_feed) B.pre
  have hown : s.vm.findClass RX11 = some m.cls := findClass_of_methodNamed B.named
  have hlocks := B.notSynchronized
  subst hsz
  have hD : sm_D (sm_a α 40 s.heap.size) α 40 := hD0.own
  have hA : ∀ q : Nat, s.heap.size ≤ q → sm_a α 40 s.heap.size q := fun q h => Or.inr h
  generalize hAe : sm_a α 40 s.heap.size = A at hD hA hE ⊢
  have hS : va_S A s.heap s.heap [] := va_S.rf
  have in_X11 : ∀ w ∈ wsX110, w ∈ wp_X11_feed := wi_X11_feed_X11
  have k_0 := hts (.fieldLink RX11 11 "SteadyMachineModel$Image" "tape" "[I") (by decide +kernel)
  have k_1 := hts (.fieldLink RX11 70 "SteadyMachineModel$Image" "taped" "I") (by decide +kernel)
  have hl := lv_entry ([.ref (α.1 0), .int p1, .int p2, .int p3, .int p4, .int p5]) (n := 8) (Nat.le_of_ble_eq_true rfl)
  rw [lg_entry_eq]
  generalize (lg_sl ([.ref (α.1 0), .int p1, .int p2, .int p3, .int p4, .int p5]) ++ List.replicate (8 - (lg_sl ([.ref (α.1 0), .int p1, .int p2, .int p3, .int p4, .int p5])).length) Slot.unset).toArray = ls at hl ⊢
  have hl : lv_has ls 8 [(0, .ref (α.1 0)), (1, .int p1), (2, .int p2), (3, .int p3), (4, .int p4), (5, .int p5)] := hl
  have B72 : ∀ (L19 : sm_S → Int32 → Int32 → Int32 → Int32 → Int32 → Int32 → Prop) (hL19 : ∀ (σ : sm_S) (x1 : Int32) (x2 : Int32) (x3 : Int32) (x4 : Int32) (x5 : Int32) (x6 : Int32), L19 σ x1 x2 x3 x4 x5 x6 → sm_J p l e (headSpec wp_X11_feed { frames := 0, cells := 0, slots := 0, locals := 0 }).room s m ([.ref (α.1 0), .int p1, .int p2, .int p3, .int p4, .int p5] : List Value).toArray below meth c (MQ below (va_Qi K (sm_B sm_wM D α) A) ([.ref (α.1 0), .int p1, .int p2, .int p3, .int p4, .int p5] : List Value).toArray s 0 0 A) D A 8 (sm_wM σ α) 19 [(0, .ref (α.1 0)), (1, .int x1), (2, .int x2), (3, .int x3), (4, .int x4), (5, .int x5), (6, .int x6)] []) (σ : sm_S) (x1 : Int32) (x2 : Int32) (x3 : Int32) (x4 : Int32) (x5 : Int32) (x6 : Int32) (y0 : Int32), mp_X11_feed_72 L19 K σ x1 x2 x3 x4 x5 x6 y0 → sm_J p l e (headSpec wp_X11_feed { frames := 0, cells := 0, slots := 0, locals := 0 }).room s m ([.ref (α.1 0), .int p1, .int p2, .int p3, .int p4, .int p5] : List Value).toArray below meth c (MQ below (va_Qi K (sm_B sm_wM D α) A) ([.ref (α.1 0), .int p1, .int p2, .int p3, .int p4, .int p5] : List Value).toArray s 0 0 A) D A 8 (sm_wM σ α) 72 [(0, .ref (α.1 0)), (1, .int x1), (2, .int x2), (3, .int x3), (4, .int x4), (5, .int x5), (6, .int x6)] [.int y0] := by
    intro L19 hL19 σ x1 x2 x3 x4 x5 x6 y0 hF H locs ls hP hS hl
    unfold mp_X11_feed_72 at hF
    refine lv_istore (lv' := [(7, .int y0), (0, .ref (α.1 0)), (1, .int x1), (2, .int x2), (3, .int x3), (4, .int x4), (5, .int x5), (6, .int x6)]) hx hb dX11_feed_72 hl (by decide) rfl (fun ls hl => ?_)
    refine lv_aload_n hx hb dX11_feed_74 rfl (lv_at hl 1 rfl) ?_
    refine va_get (D := D) (ci := 11) (v := .ref (α.1 2)) (C := RX11) (T := TX11) (N := 28) hx hb hts in_X11 hown hK hP 0 (sm_gX11 σ α) rfl 0 (by decide) k_0 (fun _ h9 => h9) rfl dX11_feed_75 ?_
    refine lv_aload_n hx hb dX11_feed_78 rfl (lv_at hl 1 rfl) ?_
    refine va_get (D := D) (ci := 11) (v := .int (σ.1 0)) (C := RX11) (T := TX11) (N := 28) hx hb hts in_X11 hown hK hP 0 (sm_gX11 σ α) rfl 1 (by decide) k_1 (fun _ h9 => h9) rfl dX11_feed_79 ?_
    refine lv_iload hx hb dX11_feed_82 (lv_at hl 0 rfl) ?_
    refine lv_bipush (v := 24) hx hb dX11_feed_84 (by decide) ?_
    refine lv_bipush (v := 8) hx hb dX11_feed_86 (by decide) ?_
    refine lv_iload hx hb dX11_feed_88 (lv_at hl 7 rfl) ?_
    refine lv_iconst (v := 3) hx hb dX11_feed_90 (by decide) ?_
    refine lv_iand hx hb dX11_feed_91 ?_
    refine lv_imul hx hb dX11_feed_92 ?_
    refine lv_isub hx hb dX11_feed_93 ?_
    refine lv_iushr hx hb dX11_feed_94 rfl ?_
    refine lv_sipush (v := 255) hx hb dX11_feed_95 (by decide) ?_
    refine lv_iand hx hb dX11_feed_98 ?_
    obtain ⟨h1, hF⟩ := hF
    refine va_iast (n := (σ.2.2.1 2)) (f := (σ.2.2.2.1 2)) (x := (((y0.toUInt32 >>> ((24 - (8 * (x6 &&& 3))).toUInt32 &&& Int32.toUInt32 31)).toInt32) &&& 255)) hx hb hK hP (hD.to (sm_wM_m _ _)) hS 2 0 (sm_aM2 σ α) (sm_yM2 α) h1 dX11_feed_99 (fun H locs hP _ hS => ?_)
    rw [sm_rM2] at hP
    obtain ⟨σ2, eσ2⟩ : ∃ x : sm_S, x = sm_r σ 2 (upd (σ.2.2.2.1 2) (σ.1 0).toNatClampNeg (((y0.toUInt32 >>> ((24 - (8 * (x6 &&& 3))).toUInt32 &&& Int32.toUInt32 31)).toInt32) &&& 255)) := ⟨_, rfl⟩
    replace hF := hF σ2 eσ2
    rw [← eσ2] at hP
    refine lv_aload_n hx hb dX11_feed_100 rfl (lv_at hl 1 rfl) ?_
    refine lv_dup hx hb dX11_feed_101 rfl ?_
    refine va_get (D := D) (ci := 11) (v := .int (σ2.1 0)) (C := RX11) (T := TX11) (N := 28) hx hb hts in_X11 hown hK hP 0 (sm_gX11 σ2 α) rfl 1 (by decide) k_1 (fun _ h9 => h9) rfl dX11_feed_102 ?_
    refine lv_iconst (v := 1) hx hb dX11_feed_105 (by decide) ?_
    refine lv_iadd hx hb dX11_feed_106 ?_
    refine va_put (D := D) (ci := 11) (v := .int ((σ2.1 0) + 1)) (ty := .int) (C := RX11) (T := TX11) (N := 28) hx hb hts in_X11 tyX11 tyX11_ok nmX11 hown hK hP (hD.to (sm_wM_m _ _)) hS 0 (sm_gX11 σ2 α) rfl 1 (by decide) k_1 (fun _ h9 => h9) rfl (by decide +kernel) rfl rfl (Nat.le_of_ble_eq_true rfl) dX11_feed_107 (fun H locs hP _ hS => ?_)
    rw [sm_iM0] at hP
    obtain ⟨σ3, eσ3⟩ : ∃ x : sm_S, x = sm_i σ2 0 ((σ2.1 0) + 1) := ⟨_, rfl⟩
    replace hF := hF σ3 eσ3
    rw [← eσ3] at hP
    obtain ⟨v4, ev4⟩ : ∃ y : Int32, y = x6 + 1 := ⟨_, rfl⟩
    replace hF := hF v4 ev4
    refine lv_iinc (v := v4) (lv' := [(6, .int v4), (7, .int y0), (0, .ref (α.1 0)), (1, .int x1), (2, .int x2), (3, .int x3), (4, .int x4), (5, .int x5)]) hx hb dX11_feed_110 hl (k := 7) rfl (by rw [ev4]; rfl) (by decide) rfl (fun ls hl => ?_)
    refine lv_goto (tgt := 19) hx hb dX11_feed_113 (by decide) ?_
    exact hL19 σ3 x1 x2 x3 x4 x5 v4 hF H locs ls hP hS (lv_sub hl [2, 3, 4, 5, 6, 7, 0] rfl)
  have B19 : ∀ (n : Nat) (σ : sm_S) (x1 : Int32) (x2 : Int32) (x3 : Int32) (x4 : Int32) (x5 : Int32) (x6 : Int32), mp_X11_feed_19 K n σ x1 x2 x3 x4 x5 x6 → sm_J p l e (headSpec wp_X11_feed { frames := 0, cells := 0, slots := 0, locals := 0 }).room s m ([.ref (α.1 0), .int p1, .int p2, .int p3, .int p4, .int p5] : List Value).toArray below meth c (MQ below (va_Qi K (sm_B sm_wM D α) A) ([.ref (α.1 0), .int p1, .int p2, .int p3, .int p4, .int p5] : List Value).toArray s 0 0 A) D A 8 (sm_wM σ α) 19 [(0, .ref (α.1 0)), (1, .int x1), (2, .int x2), (3, .int x3), (4, .int x4), (5, .int x5), (6, .int x6)] [] := by
    intro n19
    induction n19 with
    | zero =>
      intro σ x1 x2 x3 x4 x5 x6 hF
      exact hF.elim
    | succ n19 ih19 =>
      intro σ x1 x2 x3 x4 x5 x6 hF H locs ls hP hS hl
      unfold mp_X11_feed_19 at hF
      refine lv_iload hx hb dX11_feed_19 (lv_at hl 6 rfl) ?_
      refine lv_bipush (v := 20) hx hb dX11_feed_21 (by decide) ?_
      refine lv_icmp_ge (tgt := 116) hx hb dX11_feed_23 (by decide) (fun h5 => ?_) (fun h5 => ?_)
      · replace hF := hF.1 h5
        refine lv_aload_n hx hb dX11_feed_116 rfl (lv_at hl 0 rfl) ?_
        refine va_get (D := D) (ci := 11) (v := .int (σ.1 0)) (C := RX11) (T := TX11) (N := 28) hx hb hts in_X11 hown hK hP 0 (sm_gX11 σ α) rfl 1 (by decide) k_1 (fun _ h9 => h9) rfl dX11_feed_117 ?_
        exact W.iret (v := (σ.1 0)) hx hb hr (fun t ht hW => ⟨⟨(σ.1 0), σ, rfl, hF, (by unfold sm_B; rw [ht]; exact hP)⟩, hS.F ht⟩) hS.2.2 dX11_feed_120
      · replace hF := hF.2 h5
        refine lv_iload hx hb dX11_feed_26 (lv_at hl 6 rfl) ?_
        refine lv_iconst (v := 4) hx hb dX11_feed_28 (by decide) ?_
        refine lv_icmp_ge (tgt := 36) hx hb dX11_feed_29 (by decide) (fun h6 => ?_) (fun h6 => ?_)
        · replace hF := hF.1 h6
          refine lv_iload hx hb dX11_feed_36 (lv_at hl 6 rfl) ?_
          refine lv_bipush (v := 8) hx hb dX11_feed_38 (by decide) ?_
          refine lv_icmp_ge (tgt := 47) hx hb dX11_feed_40 (by decide) (fun h7 => ?_) (fun h7 => ?_)
          · replace hF := hF.1 h7
            refine lv_iload hx hb dX11_feed_47 (lv_at hl 6 rfl) ?_
            refine lv_bipush (v := 12) hx hb dX11_feed_49 (by decide) ?_
            refine lv_icmp_ge (tgt := 58) hx hb dX11_feed_51 (by decide) (fun h8 => ?_) (fun h8 => ?_)
            · replace hF := hF.1 h8
              refine lv_iload hx hb dX11_feed_58 (lv_at hl 6 rfl) ?_
              refine lv_bipush (v := 16) hx hb dX11_feed_60 (by decide) ?_
              refine lv_icmp_ge (tgt := 70) hx hb dX11_feed_62 (by decide) (fun h9 => ?_) (fun h9 => ?_)
              · replace hF := hF.1 h9
                refine lv_iload hx hb dX11_feed_70 (lv_at hl 5 rfl) ?_
                exact B72 (mp_X11_feed_19 K n19) ih19 σ x1 x2 x3 x4 x5 x6 x5 hF H locs ls hP hS (lv_sub hl [0, 1, 2, 3, 4, 5, 6] rfl)
              · replace hF := hF.2 h9
                refine lv_iload hx hb dX11_feed_65 (lv_at hl 4 rfl) ?_
                refine lv_goto (tgt := 72) hx hb dX11_feed_67 (by decide) ?_
                exact B72 (mp_X11_feed_19 K n19) ih19 σ x1 x2 x3 x4 x5 x6 x4 hF H locs ls hP hS (lv_sub hl [0, 1, 2, 3, 4, 5, 6] rfl)
            · replace hF := hF.2 h8
              refine lv_iload_n hx hb dX11_feed_54 rfl (lv_at hl 3 rfl) ?_
              refine lv_goto (tgt := 72) hx hb dX11_feed_55 (by decide) ?_
              exact B72 (mp_X11_feed_19 K n19) ih19 σ x1 x2 x3 x4 x5 x6 x3 hF H locs ls hP hS (lv_sub hl [0, 1, 2, 3, 4, 5, 6] rfl)
          · replace hF := hF.2 h7
            refine lv_iload_n hx hb dX11_feed_43 rfl (lv_at hl 2 rfl) ?_
            refine lv_goto (tgt := 72) hx hb dX11_feed_44 (by decide) ?_
            exact B72 (mp_X11_feed_19 K n19) ih19 σ x1 x2 x3 x4 x5 x6 x2 hF H locs ls hP hS (lv_sub hl [0, 1, 2, 3, 4, 5, 6] rfl)
        · replace hF := hF.2 h6
          refine lv_iload_n hx hb dX11_feed_32 rfl (lv_at hl 1 rfl) ?_
          refine lv_goto (tgt := 72) hx hb dX11_feed_33 (by decide) ?_
          exact B72 (mp_X11_feed_19 K n19) ih19 σ x1 x2 x3 x4 x5 x6 x1 hF H locs ls hP hS (lv_sub hl [0, 1, 2, 3, 4, 5, 6] rfl)
  unfold mp_X11_feed at hF
  revert hP hS
  generalize hLo : ([] : List Loc) = locs
  suffices h9 : ∀ (H : Heap) (locs : List Loc), va_P D vwCl (sm_wM σ α) H → va_S A s.heap H locs → W p l e (headSpec wp_X11_feed { frames := 0, cells := 0, slots := 0, locals := 0 }).room s m ([.ref (α.1 0), .int p1, .int p2, .int p3, .int p4, .int p5] : List Value).toArray below meth c H locs 0 0 (MQ below (va_Qi K (sm_B sm_wM D α) A) ([.ref (α.1 0), .int p1, .int p2, .int p3, .int p4, .int p5] : List Value).toArray s 0 0 A) (F0 m 0 ls []) from fun hP hS => h9 s.heap locs hP hS
  intro H locs hP hS
  refine lv_aload_n hx hb dX11_feed_0 rfl (lv_at hl 0 rfl) ?_
  refine va_get (D := D) (ci := 11) (v := .int (σ.1 0)) (C := RX11) (T := TX11) (N := 28) hx hb hts in_X11 hown hK hP 0 (sm_gX11 σ α) rfl 1 (by decide) k_1 (fun _ h9 => h9) rfl dX11_feed_1 ?_
  refine lv_bipush (v := 20) hx hb dX11_feed_4 (by decide) ?_
  refine lv_iadd hx hb dX11_feed_6 ?_
  refine lv_sipush (v := 8000) hx hb dX11_feed_7 (by decide) ?_
  refine lv_icmp_le (tgt := 16) hx hb dX11_feed_10 (by decide) (fun h10 => ?_) (fun h10 => ?_)
  · replace hF := hF.1 h10
    refine lv_iconst (v := 0) hx hb dX11_feed_16 (by decide) ?_
    refine lv_istore (lv' := [(6, .int 0), (0, .ref (α.1 0)), (1, .int p1), (2, .int p2), (3, .int p3), (4, .int p4), (5, .int p5)]) hx hb dX11_feed_17 hl (by decide) rfl (fun ls hl => ?_)
    obtain ⟨n19, hF⟩ := hF
    exact B19 n19 σ p1 p2 p3 p4 p5 0 hF H locs ls hP hS (lv_sub hl [1, 2, 3, 4, 5, 6, 0] rfl)
  · replace hF := hF.2 h10
    refine lv_bipush (v := -2) hx hb dX11_feed_13 (by decide) ?_
    exact W.iret (v := (-2)) hx hb hr (fun t ht hW => ⟨⟨(-2), σ, rfl, hF, (by unfold sm_B; rw [ht]; exact hP)⟩, hS.F ht⟩) hS.2.2 dX11_feed_15
theorem dX11_bad_0 : decode cX11_bad 0 = .ok (.aload_n 0, 1) := by decide +kernel
theorem dX11_bad_1 : decode cX11_bad 1 = .ok (.aload_n 0, 1) := by decide +kernel
theorem dX11_bad_2 : decode cX11_bad 2 = .ok (.getfield 74, 3) := by decide +kernel
theorem dX11_bad_5 : decode cX11_bad 5 = .ok (.ifCond .ge 7, 3) := by decide +kernel
theorem dX11_bad_8 : decode cX11_bad 8 = .ok (.iload_n 1, 1) := by decide +kernel
theorem dX11_bad_9 : decode cX11_bad 9 = .ok (.goto 7, 3) := by decide +kernel
theorem dX11_bad_12 : decode cX11_bad 12 = .ok (.aload_n 0, 1) := by decide +kernel
theorem dX11_bad_13 : decode cX11_bad 13 = .ok (.getfield 74, 3) := by decide +kernel
theorem dX11_bad_16 : decode cX11_bad 16 = .ok (.putfield 74, 3) := by decide +kernel
theorem dX11_bad_19 : decode cX11_bad 19 = .ok (.iconst 0, 1) := by decide +kernel
theorem dX11_bad_20 : decode cX11_bad 20 = .ok (.ireturn, 1) := by decide +kernel
def wp_X11_bad : List Cond := .code yX11_bad cX11_bad 2 (some .boolean) :: ([.fieldLink RX11 74 "SteadyMachineModel$Image" "wrong" "I"] ++ wsX110)
theorem wq_X11_bad : wp_X11_bad.all goodWord = true := wa_c rfl (wa_a (by decide +kernel) uq_X11)
theorem wt_X11_bad : GoodIn lw_tbl wp_X11_bad := wm_c (List.mem_of_getElem? (i := 1223) (by decide +kernel)) rfl (wm_a (goodIn_r _ [1389] (by decide +kernel) (by decide +kernel)) ut_X11)
theorem wi_X11_bad_X11 : ∀ w ∈ wsX110, w ∈ wp_X11_bad := fun w h => List.mem_cons_of_mem _ (List.mem_append_right _ h)
set_option maxHeartbeats 4000000 in
set_option maxRecDepth 100000 in
theorem c_X11_bad (l : Launch) (D : va_G) (sz t0 : Nat) (σ : sm_S) (α : sm_A) (p1 : Int32) (K : Int32 → sm_S → Prop) (hF : mp_X11_bad σ p1 K) : Met l yX11_bad wp_X11_bad { frames := 0, cells := 0, slots := 0, locals := 0 } (sm_P sm_wM sm_tM 40 D sz t0 σ α [.ref (α.1 0), .int p1]) (va_Qi K (sm_B sm_wM D α) (sm_a α 40 sz)) 0 0 (sm_a α 40 sz) := by
  refine Met.ofW (cc := cX11_bad) (maxL := 2) (ret := (some .boolean)) (by decide) rfl ?_
  intro p e s m args below meth c s₁ B hml hv
  obtain ⟨rfl, hsz, hP, hK, hD0, hE⟩ := hv
  have hx := B.exec
  have hb := B.bytes
  have hr := B.returns
  have hts := atoms_spec (ws := wp_X11_bad) B.pre
  have hown : s.vm.findClass RX11 = some m.cls := findClass_of_methodNamed B.named
  have hlocks := B.notSynchronized
  subst hsz
  have hD : sm_D (sm_a α 40 s.heap.size) α 40 := hD0.own
  have hA : ∀ q : Nat, s.heap.size ≤ q → sm_a α 40 s.heap.size q := fun q h => Or.inr h
  generalize hAe : sm_a α 40 s.heap.size = A at hD hA hE ⊢
  have hS : va_S A s.heap s.heap [] := va_S.rf
  have in_X11 : ∀ w ∈ wsX110, w ∈ wp_X11_bad := wi_X11_bad_X11
  have k_0 := hts (.fieldLink RX11 74 "SteadyMachineModel$Image" "wrong" "I") (by decide +kernel)
  have hl := lv_entry ([.ref (α.1 0), .int p1]) (n := 2) (Nat.le_of_ble_eq_true rfl)
  rw [lg_entry_eq]
  generalize (lg_sl ([.ref (α.1 0), .int p1]) ++ List.replicate (2 - (lg_sl ([.ref (α.1 0), .int p1])).length) Slot.unset).toArray = ls at hl ⊢
  have hl : lv_has ls 2 [(0, .ref (α.1 0)), (1, .int p1)] := hl
  have B16 : ∀ (σ : sm_S) (y1 : Int32), mp_X11_bad_16 K σ y1 → sm_J p l e (headSpec wp_X11_bad { frames := 0, cells := 0, slots := 0, locals := 0 }).room s m ([.ref (α.1 0), .int p1] : List Value).toArray below meth c (MQ below (va_Qi K (sm_B sm_wM D α) A) ([.ref (α.1 0), .int p1] : List Value).toArray s 0 0 A) D A 2 (sm_wM σ α) 16 [] [.int y1, .ref (α.1 0)] := by
    intro σ y1 hF H locs ls hP hS hl
    unfold mp_X11_bad_16 at hF
    refine va_put (D := D) (ci := 11) (v := .int y1) (ty := .int) (C := RX11) (T := TX11) (N := 28) hx hb hts in_X11 tyX11 tyX11_ok nmX11 hown hK hP (hD.to (sm_wM_m _ _)) hS 0 (sm_gX11 σ α) rfl 6 (by decide) k_0 (fun _ h9 => h9) rfl (by decide +kernel) rfl rfl (Nat.le_of_ble_eq_true rfl) dX11_bad_16 (fun H locs hP _ hS => ?_)
    rw [sm_iM3] at hP
    obtain ⟨σ1, eσ1⟩ : ∃ x : sm_S, x = sm_i σ 3 y1 := ⟨_, rfl⟩
    replace hF := hF σ1 eσ1
    rw [← eσ1] at hP
    refine lv_iconst (v := 0) hx hb dX11_bad_19 (by decide) ?_
    exact W.zret (v := 0) hx hb hr sm_z0.1 (fun t ht hW => ⟨⟨0, σ1, rfl, hF, (by unfold sm_B; rw [ht]; exact hP)⟩, hS.F ht⟩) hS.2.2 dX11_bad_20
  unfold mp_X11_bad at hF
  revert hP hS
  generalize hLo : ([] : List Loc) = locs
  suffices h9 : ∀ (H : Heap) (locs : List Loc), va_P D vwCl (sm_wM σ α) H → va_S A s.heap H locs → W p l e (headSpec wp_X11_bad { frames := 0, cells := 0, slots := 0, locals := 0 }).room s m ([.ref (α.1 0), .int p1] : List Value).toArray below meth c H locs 0 0 (MQ below (va_Qi K (sm_B sm_wM D α) A) ([.ref (α.1 0), .int p1] : List Value).toArray s 0 0 A) (F0 m 0 ls []) from fun hP hS => h9 s.heap locs hP hS
  intro H locs hP hS
  refine lv_aload_n hx hb dX11_bad_0 rfl (lv_at hl 0 rfl) ?_
  refine lv_aload_n hx hb dX11_bad_1 rfl (lv_at hl 0 rfl) ?_
  refine va_get (D := D) (ci := 11) (v := .int (σ.1 3)) (C := RX11) (T := TX11) (N := 28) hx hb hts in_X11 hown hK hP 0 (sm_gX11 σ α) rfl 6 (by decide) k_0 (fun _ h9 => h9) rfl dX11_bad_2 ?_
  refine lv_if_ge (tgt := 12) hx hb dX11_bad_5 (by decide) (fun h2 => ?_) (fun h2 => ?_)
  · replace hF := hF.1 h2
    refine lv_aload_n hx hb dX11_bad_12 rfl (lv_at hl 0 rfl) ?_
    refine va_get (D := D) (ci := 11) (v := .int (σ.1 3)) (C := RX11) (T := TX11) (N := 28) hx hb hts in_X11 hown hK hP 0 (sm_gX11 σ α) rfl 6 (by decide) k_0 (fun _ h9 => h9) rfl dX11_bad_13 ?_
    exact B16 σ (σ.1 3) hF H locs ls hP hS (lv_sub hl [] rfl)
  · replace hF := hF.2 h2
    refine lv_iload_n hx hb dX11_bad_8 rfl (lv_at hl 1 rfl) ?_
    refine lv_goto (tgt := 16) hx hb dX11_bad_9 (by decide) ?_
    exact B16 σ p1 hF H locs ls hP hS (lv_sub hl [] rfl)
theorem dX11_here_0 : decode cX11_here 0 = .ok (.aload_n 0, 1) := by decide +kernel
theorem dX11_here_1 : decode cX11_here 1 = .ok (.getfield 77, 3) := by decide +kernel
theorem dX11_here_4 : decode cX11_here 4 = .ok (.aload_n 0, 1) := by decide +kernel
theorem dX11_here_5 : decode cX11_here 5 = .ok (.getfield 80, 3) := by decide +kernel
theorem dX11_here_8 : decode cX11_here 8 = .ok (.if_icmp .ge 15, 3) := by decide +kernel
theorem dX11_here_11 : decode cX11_here 11 = .ok (.aload_n 0, 1) := by decide +kernel
theorem dX11_here_12 : decode cX11_here 12 = .ok (.getfield 15, 3) := by decide +kernel
theorem dX11_here_15 : decode cX11_here 15 = .ok (.aload_n 0, 1) := by decide +kernel
theorem dX11_here_16 : decode cX11_here 16 = .ok (.getfield 77, 3) := by decide +kernel
theorem dX11_here_19 : decode cX11_here 19 = .ok (.iaload, 1) := by decide +kernel
theorem dX11_here_20 : decode cX11_here 20 = .ok (.goto 6, 3) := by decide +kernel
theorem dX11_here_23 : decode cX11_here 23 = .ok (.sipush 256, 3) := by decide +kernel
theorem dX11_here_26 : decode cX11_here 26 = .ok (.ireturn, 1) := by decide +kernel
def wp_X11_here : List Cond := .code yX11_here cX11_here 1 (some .int) :: ([.fieldLink RX11 77 "SteadyMachineModel$Image" "place" "I", .fieldLink RX11 80 "SteadyMachineModel$Image" "size" "I", .fieldLink RX11 15 "SteadyMachineModel$Image" "image" "[I"] ++ wsX110)
theorem wq_X11_here : wp_X11_here.all goodWord = true := wa_c rfl (wa_a (by decide +kernel) uq_X11)
theorem wt_X11_here : GoodIn lw_tbl wp_X11_here := wm_c (List.mem_of_getElem? (i := 1219) (by decide +kernel)) rfl (wm_a (goodIn_r _ [1388, 1387, 1384] (by decide +kernel) (by decide +kernel)) ut_X11)
theorem wi_X11_here_X11 : ∀ w ∈ wsX110, w ∈ wp_X11_here := fun w h => List.mem_cons_of_mem _ (List.mem_append_right _ h)
set_option maxHeartbeats 4000000 in
set_option maxRecDepth 100000 in
theorem c_X11_here (l : Launch) (D : va_G) (sz t0 : Nat) (σ : sm_S) (α : sm_A) (K : Int32 → sm_S → Prop) (hF : mp_X11_here σ K) : Met l yX11_here wp_X11_here { frames := 0, cells := 0, slots := 0, locals := 0 } (sm_P sm_wM sm_tM 40 D sz t0 σ α [.ref (α.1 0)]) (va_Qi K (sm_B sm_wM D α) (sm_a α 40 sz)) 0 0 (sm_a α 40 sz) := by
  refine Met.ofW (cc := cX11_here) (maxL := 1) (ret := (some .int)) (by decide) rfl ?_
  intro p e s m args below meth c s₁ B hml hv
  obtain ⟨rfl, hsz, hP, hK, hD0, hE⟩ := hv
  have hx := B.exec
  have hb := B.bytes
  have hr := B.returns
  have hts := atoms_spec (ws := wp_X11_here) B.pre
  have hown : s.vm.findClass RX11 = some m.cls := findClass_of_methodNamed B.named
  have hlocks := B.notSynchronized
  subst hsz
  have hD : sm_D (sm_a α 40 s.heap.size) α 40 := hD0.own
  have hA : ∀ q : Nat, s.heap.size ≤ q → sm_a α 40 s.heap.size q := fun q h => Or.inr h
  generalize hAe : sm_a α 40 s.heap.size = A at hD hA hE ⊢
  have hS : va_S A s.heap s.heap [] := va_S.rf
  have in_X11 : ∀ w ∈ wsX110, w ∈ wp_X11_here := wi_X11_here_X11
  have k_0 := hts (.fieldLink RX11 77 "SteadyMachineModel$Image" "place" "I") (by decide +kernel)
  have k_1 := hts (.fieldLink RX11 80 "SteadyMachineModel$Image" "size" "I") (by decide +kernel)
  have k_2 := hts (.fieldLink RX11 15 "SteadyMachineModel$Image" "image" "[I") (by decide +kernel)
  have hl := lv_entry ([.ref (α.1 0)]) (n := 1) (Nat.le_of_ble_eq_true rfl)
  rw [lg_entry_eq]
  generalize (lg_sl ([.ref (α.1 0)]) ++ List.replicate (1 - (lg_sl ([.ref (α.1 0)])).length) Slot.unset).toArray = ls at hl ⊢
  have hl : lv_has ls 1 [(0, .ref (α.1 0))] := hl
  have B26 : ∀ (σ : sm_S) (y0 : Int32), mp_X11_here_26 K σ y0 → sm_J p l e (headSpec wp_X11_here { frames := 0, cells := 0, slots := 0, locals := 0 }).room s m ([.ref (α.1 0)] : List Value).toArray below meth c (MQ below (va_Qi K (sm_B sm_wM D α) A) ([.ref (α.1 0)] : List Value).toArray s 0 0 A) D A 1 (sm_wM σ α) 26 [] [.int y0] := by
    intro σ y0 hF H locs ls hP hS hl
    unfold mp_X11_here_26 at hF
    exact W.iret (v := y0) hx hb hr (fun t ht hW => ⟨⟨y0, σ, rfl, hF, (by unfold sm_B; rw [ht]; exact hP)⟩, hS.F ht⟩) hS.2.2 dX11_here_26
  unfold mp_X11_here at hF
  revert hP hS
  generalize hLo : ([] : List Loc) = locs
  suffices h9 : ∀ (H : Heap) (locs : List Loc), va_P D vwCl (sm_wM σ α) H → va_S A s.heap H locs → W p l e (headSpec wp_X11_here { frames := 0, cells := 0, slots := 0, locals := 0 }).room s m ([.ref (α.1 0)] : List Value).toArray below meth c H locs 0 0 (MQ below (va_Qi K (sm_B sm_wM D α) A) ([.ref (α.1 0)] : List Value).toArray s 0 0 A) (F0 m 0 ls []) from fun hP hS => h9 s.heap locs hP hS
  intro H locs hP hS
  refine lv_aload_n hx hb dX11_here_0 rfl (lv_at hl 0 rfl) ?_
  refine va_get (D := D) (ci := 11) (v := .int (σ.1 2)) (C := RX11) (T := TX11) (N := 28) hx hb hts in_X11 hown hK hP 0 (sm_gX11 σ α) rfl 5 (by decide) k_0 (fun _ h9 => h9) rfl dX11_here_1 ?_
  refine lv_aload_n hx hb dX11_here_4 rfl (lv_at hl 0 rfl) ?_
  refine va_get (D := D) (ci := 11) (v := .int (σ.1 1)) (C := RX11) (T := TX11) (N := 28) hx hb hts in_X11 hown hK hP 0 (sm_gX11 σ α) rfl 4 (by decide) k_1 (fun _ h9 => h9) rfl dX11_here_5 ?_
  refine lv_icmp_ge (tgt := 23) hx hb dX11_here_8 (by decide) (fun h1 => ?_) (fun h1 => ?_)
  · replace hF := hF.1 h1
    refine lv_sipush (v := 256) hx hb dX11_here_23 (by decide) ?_
    exact B26 σ 256 hF H locs ls hP hS (lv_sub hl [] rfl)
  · replace hF := hF.2 h1
    refine lv_aload_n hx hb dX11_here_11 rfl (lv_at hl 0 rfl) ?_
    refine va_get (D := D) (ci := 11) (v := .ref (α.1 3)) (C := RX11) (T := TX11) (N := 28) hx hb hts in_X11 hown hK hP 0 (sm_gX11 σ α) rfl 2 (by decide) k_2 (fun _ h9 => h9) rfl dX11_here_12 ?_
    refine lv_aload_n hx hb dX11_here_15 rfl (lv_at hl 0 rfl) ?_
    refine va_get (D := D) (ci := 11) (v := .int (σ.1 2)) (C := RX11) (T := TX11) (N := 28) hx hb hts in_X11 hown hK hP 0 (sm_gX11 σ α) rfl 5 (by decide) k_0 (fun _ h9 => h9) rfl dX11_here_16 ?_
    obtain ⟨h2, hF⟩ := hF
    refine va_iald (n := (σ.2.2.1 3)) (f := (σ.2.2.2.1 3)) hx hb hK hP 3 1 (sm_aM3 σ α) (sm_yM3 α) h2 dX11_here_19 ?_
    refine lv_goto (tgt := 26) hx hb dX11_here_20 (by decide) ?_
    exact B26 σ ((σ.2.2.2.1 3) (σ.1 2).toNatClampNeg) hF H locs ls hP hS (lv_sub hl [] rfl)
theorem dX11_over_0 : decode cX11_over 0 = .ok (.aload_n 0, 1) := by decide +kernel
theorem dX11_over_1 : decode cX11_over 1 = .ok (.invokevirtual 83, 3) := by decide +kernel
theorem dX11_over_4 : decode cX11_over 4 = .ok (.iload_n 1, 1) := by decide +kernel
theorem dX11_over_5 : decode cX11_over 5 = .ok (.if_icmp .lt 21, 3) := by decide +kernel
theorem dX11_over_8 : decode cX11_over 8 = .ok (.aload_n 0, 1) := by decide +kernel
theorem dX11_over_9 : decode cX11_over 9 = .ok (.invokevirtual 83, 3) := by decide +kernel
theorem dX11_over_12 : decode cX11_over 12 = .ok (.iload_n 2, 1) := by decide +kernel
theorem dX11_over_13 : decode cX11_over 13 = .ok (.if_icmp .gt 13, 3) := by decide +kernel
theorem dX11_over_16 : decode cX11_over 16 = .ok (.aload_n 0, 1) := by decide +kernel
theorem dX11_over_17 : decode cX11_over 17 = .ok (.invokevirtual 83, 3) := by decide +kernel
theorem dX11_over_20 : decode cX11_over 20 = .ok (.sipush 256, 3) := by decide +kernel
theorem dX11_over_23 : decode cX11_over 23 = .ok (.if_icmp .ne 12, 3) := by decide +kernel
theorem dX11_over_26 : decode cX11_over 26 = .ok (.aload_n 0, 1) := by decide +kernel
theorem dX11_over_27 : decode cX11_over 27 = .ok (.aload_n 0, 1) := by decide +kernel
theorem dX11_over_28 : decode cX11_over 28 = .ok (.getfield 77, 3) := by decide +kernel
theorem dX11_over_31 : decode cX11_over 31 = .ok (.invokevirtual 87, 3) := by decide +kernel
theorem dX11_over_34 : decode cX11_over 34 = .ok (.ireturn, 1) := by decide +kernel
theorem dX11_over_35 : decode cX11_over 35 = .ok (.aload_n 0, 1) := by decide +kernel
theorem dX11_over_36 : decode cX11_over 36 = .ok (.dup, 1) := by decide +kernel
theorem dX11_over_37 : decode cX11_over 37 = .ok (.getfield 77, 3) := by decide +kernel
theorem dX11_over_40 : decode cX11_over 40 = .ok (.iconst 1, 1) := by decide +kernel
theorem dX11_over_41 : decode cX11_over 41 = .ok (.iadd, 1) := by decide +kernel
theorem dX11_over_42 : decode cX11_over 42 = .ok (.putfield 77, 3) := by decide +kernel
theorem dX11_over_45 : decode cX11_over 45 = .ok (.iconst 1, 1) := by decide +kernel
theorem dX11_over_46 : decode cX11_over 46 = .ok (.ireturn, 1) := by decide +kernel
def wp_X11_over : List Cond := .code yX11_over cX11_over 3 (some .boolean) :: ((([.fieldLink RX11 77 "SteadyMachineModel$Image" "place" "I"] ++ (wsV RX11 87 RX11 yX11_bad wp_X11_bad)) ++ (wsV RX11 83 RX11 yX11_here wp_X11_here)) ++ wsX110)
theorem wq_X11_over : wp_X11_over.all goodWord = true := wa_c rfl (wa_a (wa_a (wa_a (by decide +kernel) (wa_V wq_X11_bad)) (wa_V wq_X11_here)) uq_X11)
theorem wt_X11_over : GoodIn lw_tbl wp_X11_over := wm_c (List.mem_of_getElem? (i := 1215) (by decide +kernel)) rfl (wm_a (wm_a (wm_a (goodIn_r _ [1388] (by decide +kernel) (by decide +kernel)) (wm_a (goodIn_r _ [1220, 1222, 71, 148] (by decide +kernel) (by decide +kernel)) wt_X11_bad)) (wm_a (goodIn_r _ [1216, 1218, 70, 148] (by decide +kernel) (by decide +kernel)) wt_X11_here)) ut_X11)
theorem wg_X11_over_X11_bad_87 : GoodIn wp_X11_over (wsV RX11 87 RX11 yX11_bad wp_X11_bad) := goodIn_sub (fun w h => List.mem_cons_of_mem _ (List.mem_append_left _ (List.mem_append_left _ (List.mem_append_right _ h)))) (wa_V wq_X11_bad)
theorem wg_X11_over_X11_here_83 : GoodIn wp_X11_over (wsV RX11 83 RX11 yX11_here wp_X11_here) := goodIn_sub (fun w h => List.mem_cons_of_mem _ (List.mem_append_left _ (List.mem_append_right _ h))) (wa_V wq_X11_here)
theorem wi_X11_over_X11 : ∀ w ∈ wsX110, w ∈ wp_X11_over := fun w h => List.mem_cons_of_mem _ (List.mem_append_right _ h)
set_option maxHeartbeats 4000000 in
set_option maxRecDepth 100000 in
theorem c_X11_over (l : Launch) (D : va_G) (sz t0 : Nat) (σ : sm_S) (α : sm_A) (p1 : Int32) (p2 : Int32) (K : Int32 → sm_S → Prop) (hF : mp_X11_over σ p1 p2 K) : Met l yX11_over wp_X11_over { frames := 1, cells := 0, slots := 0, locals := 21 } (sm_P sm_wM sm_tM 40 D sz t0 σ α [.ref (α.1 0), .int p1, .int p2]) (va_Qi K (sm_B sm_wM D α) (sm_a α 40 sz)) 0 0 (sm_a α 40 sz) := by
  refine Met.ofW (cc := cX11_over) (maxL := 3) (ret := (some .boolean)) (by decide) rfl ?_
  intro p e s m args below meth c s₁ B hml hv
  obtain ⟨rfl, hsz, hP, hK, hD0, hE⟩ := hv
  have hx := B.exec
  have hb := B.bytes
  have hr := B.returns
  have hts := atoms_spec (ws := wp_X11_over) B.pre
  have hown : s.vm.findClass RX11 = some m.cls := findClass_of_methodNamed B.named
  have hlocks := B.notSynchronized
  subst hsz
  have hD : sm_D (sm_a α 40 s.heap.size) α 40 := hD0.own
  have hA : ∀ q : Nat, s.heap.size ≤ q → sm_a α 40 s.heap.size q := fun q h => Or.inr h
  generalize hAe : sm_a α 40 s.heap.size = A at hD hA hE ⊢
  have hS : va_S A s.heap s.heap [] := va_S.rf
  have in_X11 : ∀ w ∈ wsX110, w ∈ wp_X11_over := wi_X11_over_X11
  have k_0 := hts (.fieldLink RX11 77 "SteadyMachineModel$Image" "place" "I") (by decide +kernel)
  have hl := lv_entry ([.ref (α.1 0), .int p1, .int p2]) (n := 3) (Nat.le_of_ble_eq_true rfl)
  rw [lg_entry_eq]
  generalize (lg_sl ([.ref (α.1 0), .int p1, .int p2]) ++ List.replicate (3 - (lg_sl ([.ref (α.1 0), .int p1, .int p2])).length) Slot.unset).toArray = ls at hl ⊢
  have hl : lv_has ls 3 [(0, .ref (α.1 0)), (1, .int p1), (2, .int p2)] := hl
  have B26 : ∀ (σ : sm_S), mp_X11_over_26 K σ → sm_J p l e (headSpec wp_X11_over { frames := 1, cells := 0, slots := 0, locals := 21 }).room s m ([.ref (α.1 0), .int p1, .int p2] : List Value).toArray below meth c (MQ below (va_Qi K (sm_B sm_wM D α) A) ([.ref (α.1 0), .int p1, .int p2] : List Value).toArray s 0 0 A) D A 3 (sm_wM σ α) 26 [(0, .ref (α.1 0))] [] := by
    intro σ hF H locs ls hP hS hl
    unfold mp_X11_over_26 at hF
    refine lv_aload_n hx hb dX11_over_26 rfl (lv_at hl 0 rfl) ?_
    refine lv_aload_n hx hb dX11_over_27 rfl (lv_at hl 0 rfl) ?_
    refine va_get (D := D) (ci := 11) (v := .int (σ.1 2)) (C := RX11) (T := TX11) (N := 28) hx hb hts in_X11 hown hK hP 0 (sm_gX11 σ α) rfl 5 (by decide) k_0 (fun _ h9 => h9) rfl dX11_over_28 ?_
    refine sm_vi (As := [.int (σ.1 2)]) (rest := []) hP hK hD hE hS hA ⟨hx, hb, hml, hown, hts⟩ hl.1 (c_X11_bad l D H.size t0 σ α (σ.1 2) _ hF) (cwV 1 hts wg_X11_over_X11_bad_87 rfl rfl rfl (by decide +kernel) ⟨Nat.le_of_ble_eq_true rfl, Nat.le_of_ble_eq_true rfl⟩) (va_recv hK hP (ci := 11) (q0 := 0) rfl (sm_gX11 σ α)) rfl rfl (Nat.le_of_ble_eq_true rfl) dX11_over_31 ⟨Nat.zero_le _, Nat.zero_le _⟩ (fun r2 σ1 H locs hF hP hS => ?_)
    obtain ⟨h3, hF⟩ := hF
    exact W.zret (v := r2) hx hb hr h3.1 (fun t ht hW => ⟨⟨r2, σ1, rfl, hF, (by unfold sm_B; rw [ht]; exact hP)⟩, hS.F ht⟩) hS.2.2 dX11_over_34
  unfold mp_X11_over at hF
  revert hP hS
  generalize hLo : ([] : List Loc) = locs
  suffices h9 : ∀ (H : Heap) (locs : List Loc), va_P D vwCl (sm_wM σ α) H → va_S A s.heap H locs → W p l e (headSpec wp_X11_over { frames := 1, cells := 0, slots := 0, locals := 21 }).room s m ([.ref (α.1 0), .int p1, .int p2] : List Value).toArray below meth c H locs 0 0 (MQ below (va_Qi K (sm_B sm_wM D α) A) ([.ref (α.1 0), .int p1, .int p2] : List Value).toArray s 0 0 A) (F0 m 0 ls []) from fun hP hS => h9 s.heap locs hP hS
  intro H locs hP hS
  refine lv_aload_n hx hb dX11_over_0 rfl (lv_at hl 0 rfl) ?_
  refine sm_vi (As := []) (rest := []) hP hK hD hE hS hA ⟨hx, hb, hml, hown, hts⟩ hl.1 (c_X11_here l D H.size t0 σ α _ hF) (cwV 0 hts wg_X11_over_X11_here_83 rfl rfl rfl (by decide +kernel) ⟨Nat.le_of_ble_eq_true rfl, Nat.le_of_ble_eq_true rfl⟩) (va_recv hK hP (ci := 11) (q0 := 0) rfl (sm_gX11 σ α)) rfl rfl (Nat.le_of_ble_eq_true rfl) dX11_over_1 ⟨Nat.zero_le _, Nat.zero_le _⟩ (fun r5 σ4 H locs hF hP hS => ?_)
  refine lv_iload_n hx hb dX11_over_4 rfl (lv_at hl 1 rfl) ?_
  refine lv_icmp_lt (tgt := 26) hx hb dX11_over_5 (by decide) (fun h6 => ?_) (fun h6 => ?_)
  · replace hF := hF.1 h6
    exact B26 σ4 hF H locs ls hP hS (lv_sub hl [0] rfl)
  · replace hF := hF.2 h6
    refine lv_aload_n hx hb dX11_over_8 rfl (lv_at hl 0 rfl) ?_
    refine sm_vi (As := []) (rest := []) hP hK hD hE hS hA ⟨hx, hb, hml, hown, hts⟩ hl.1 (c_X11_here l D H.size t0 σ4 α _ hF) (cwV 0 hts wg_X11_over_X11_here_83 rfl rfl rfl (by decide +kernel) ⟨Nat.le_of_ble_eq_true rfl, Nat.le_of_ble_eq_true rfl⟩) (va_recv hK hP (ci := 11) (q0 := 0) rfl (sm_gX11 σ4 α)) rfl rfl (Nat.le_of_ble_eq_true rfl) dX11_over_9 ⟨Nat.zero_le _, Nat.zero_le _⟩ (fun r8 σ7 H locs hF hP hS => ?_)
    refine lv_iload_n hx hb dX11_over_12 rfl (lv_at hl 2 rfl) ?_
    refine lv_icmp_gt (tgt := 26) hx hb dX11_over_13 (by decide) (fun h9 => ?_) (fun h9 => ?_)
    · replace hF := hF.1 h9
      exact B26 σ7 hF H locs ls hP hS (lv_sub hl [0] rfl)
    · replace hF := hF.2 h9
      refine lv_aload_n hx hb dX11_over_16 rfl (lv_at hl 0 rfl) ?_
      refine sm_vi (As := []) (rest := []) hP hK hD hE hS hA ⟨hx, hb, hml, hown, hts⟩ hl.1 (c_X11_here l D H.size t0 σ7 α _ hF) (cwV 0 hts wg_X11_over_X11_here_83 rfl rfl rfl (by decide +kernel) ⟨Nat.le_of_ble_eq_true rfl, Nat.le_of_ble_eq_true rfl⟩) (va_recv hK hP (ci := 11) (q0 := 0) rfl (sm_gX11 σ7 α)) rfl rfl (Nat.le_of_ble_eq_true rfl) dX11_over_17 ⟨Nat.zero_le _, Nat.zero_le _⟩ (fun r11 σ10 H locs hF hP hS => ?_)
      refine lv_sipush (v := 256) hx hb dX11_over_20 (by decide) ?_
      refine lv_icmp_ne (tgt := 35) hx hb dX11_over_23 (by decide) (fun h12 => ?_) (fun h12 => ?_)
      · replace hF := hF.1 h12
        refine lv_aload_n hx hb dX11_over_35 rfl (lv_at hl 0 rfl) ?_
        refine lv_dup hx hb dX11_over_36 rfl ?_
        refine va_get (D := D) (ci := 11) (v := .int (σ10.1 2)) (C := RX11) (T := TX11) (N := 28) hx hb hts in_X11 hown hK hP 0 (sm_gX11 σ10 α) rfl 5 (by decide) k_0 (fun _ h9 => h9) rfl dX11_over_37 ?_
        refine lv_iconst (v := 1) hx hb dX11_over_40 (by decide) ?_
        refine lv_iadd hx hb dX11_over_41 ?_
        refine va_put (D := D) (ci := 11) (v := .int ((σ10.1 2) + 1)) (ty := .int) (C := RX11) (T := TX11) (N := 28) hx hb hts in_X11 tyX11 tyX11_ok nmX11 hown hK hP (hD.to (sm_wM_m _ _)) hS 0 (sm_gX11 σ10 α) rfl 5 (by decide) k_0 (fun _ h9 => h9) rfl (by decide +kernel) rfl rfl (Nat.le_of_ble_eq_true rfl) dX11_over_42 (fun H locs hP _ hS => ?_)
        rw [sm_iM2] at hP
        obtain ⟨σ13, eσ13⟩ : ∃ x : sm_S, x = sm_i σ10 2 ((σ10.1 2) + 1) := ⟨_, rfl⟩
        replace hF := hF σ13 eσ13
        rw [← eσ13] at hP
        refine lv_iconst (v := 1) hx hb dX11_over_45 (by decide) ?_
        exact W.zret (v := 1) hx hb hr sm_z1.1 (fun t ht hW => ⟨⟨1, σ13, rfl, hF, (by unfold sm_B; rw [ht]; exact hP)⟩, hS.F ht⟩) hS.2.2 dX11_over_46
      · replace hF := hF.2 h12
        exact B26 σ10 hF H locs ls hP hS (lv_sub hl [0] rfl)
theorem dX11_last_0 : decode cX11_last 0 = .ok (.aload_n 0, 1) := by decide +kernel
theorem dX11_last_1 : decode cX11_last 1 = .ok (.getfield 15, 3) := by decide +kernel
theorem dX11_last_4 : decode cX11_last 4 = .ok (.aload_n 0, 1) := by decide +kernel
theorem dX11_last_5 : decode cX11_last 5 = .ok (.getfield 77, 3) := by decide +kernel
theorem dX11_last_8 : decode cX11_last 8 = .ok (.iconst 1, 1) := by decide +kernel
theorem dX11_last_9 : decode cX11_last 9 = .ok (.isub, 1) := by decide +kernel
theorem dX11_last_10 : decode cX11_last 10 = .ok (.iaload, 1) := by decide +kernel
theorem dX11_last_11 : decode cX11_last 11 = .ok (.ireturn, 1) := by decide +kernel
def wp_X11_last : List Cond := .code yX11_last cX11_last 1 (some .int) :: ([.fieldLink RX11 15 "SteadyMachineModel$Image" "image" "[I", .fieldLink RX11 77 "SteadyMachineModel$Image" "place" "I"] ++ wsX110)
theorem wq_X11_last : wp_X11_last.all goodWord = true := wa_c rfl (wa_a (by decide +kernel) uq_X11)
theorem wt_X11_last : GoodIn lw_tbl wp_X11_last := wm_c (List.mem_of_getElem? (i := 1227) (by decide +kernel)) rfl (wm_a (goodIn_r _ [1384, 1388] (by decide +kernel) (by decide +kernel)) ut_X11)
theorem wi_X11_last_X11 : ∀ w ∈ wsX110, w ∈ wp_X11_last := fun w h => List.mem_cons_of_mem _ (List.mem_append_right _ h)
set_option maxHeartbeats 4000000 in
set_option maxRecDepth 100000 in
theorem c_X11_last (l : Launch) (D : va_G) (sz t0 : Nat) (σ : sm_S) (α : sm_A) (K : Int32 → sm_S → Prop) (hF : mp_X11_last σ K) : Met l yX11_last wp_X11_last { frames := 0, cells := 0, slots := 0, locals := 0 } (sm_P sm_wM sm_tM 40 D sz t0 σ α [.ref (α.1 0)]) (va_Qi K (sm_B sm_wM D α) (sm_a α 40 sz)) 0 0 (sm_a α 40 sz) := by
  refine Met.ofW (cc := cX11_last) (maxL := 1) (ret := (some .int)) (by decide) rfl ?_
  intro p e s m args below meth c s₁ B hml hv
  obtain ⟨rfl, hsz, hP, hK, hD0, hE⟩ := hv
  have hx := B.exec
  have hb := B.bytes
  have hr := B.returns
  have hts := atoms_spec (ws := wp_X11_last) B.pre
  have hown : s.vm.findClass RX11 = some m.cls := findClass_of_methodNamed B.named
  have hlocks := B.notSynchronized
  subst hsz
  have hD : sm_D (sm_a α 40 s.heap.size) α 40 := hD0.own
  have hA : ∀ q : Nat, s.heap.size ≤ q → sm_a α 40 s.heap.size q := fun q h => Or.inr h
  generalize hAe : sm_a α 40 s.heap.size = A at hD hA hE ⊢
  have hS : va_S A s.heap s.heap [] := va_S.rf
  have in_X11 : ∀ w ∈ wsX110, w ∈ wp_X11_last := wi_X11_last_X11
  have k_0 := hts (.fieldLink RX11 15 "SteadyMachineModel$Image" "image" "[I") (by decide +kernel)
  have k_1 := hts (.fieldLink RX11 77 "SteadyMachineModel$Image" "place" "I") (by decide +kernel)
  have hl := lv_entry ([.ref (α.1 0)]) (n := 1) (Nat.le_of_ble_eq_true rfl)
  rw [lg_entry_eq]
  generalize (lg_sl ([.ref (α.1 0)]) ++ List.replicate (1 - (lg_sl ([.ref (α.1 0)])).length) Slot.unset).toArray = ls at hl ⊢
  have hl : lv_has ls 1 [(0, .ref (α.1 0))] := hl
  unfold mp_X11_last at hF
  revert hP hS
  generalize hLo : ([] : List Loc) = locs
  suffices h9 : ∀ (H : Heap) (locs : List Loc), va_P D vwCl (sm_wM σ α) H → va_S A s.heap H locs → W p l e (headSpec wp_X11_last { frames := 0, cells := 0, slots := 0, locals := 0 }).room s m ([.ref (α.1 0)] : List Value).toArray below meth c H locs 0 0 (MQ below (va_Qi K (sm_B sm_wM D α) A) ([.ref (α.1 0)] : List Value).toArray s 0 0 A) (F0 m 0 ls []) from fun hP hS => h9 s.heap locs hP hS
  intro H locs hP hS
  refine lv_aload_n hx hb dX11_last_0 rfl (lv_at hl 0 rfl) ?_
  refine va_get (D := D) (ci := 11) (v := .ref (α.1 3)) (C := RX11) (T := TX11) (N := 28) hx hb hts in_X11 hown hK hP 0 (sm_gX11 σ α) rfl 2 (by decide) k_0 (fun _ h9 => h9) rfl dX11_last_1 ?_
  refine lv_aload_n hx hb dX11_last_4 rfl (lv_at hl 0 rfl) ?_
  refine va_get (D := D) (ci := 11) (v := .int (σ.1 2)) (C := RX11) (T := TX11) (N := 28) hx hb hts in_X11 hown hK hP 0 (sm_gX11 σ α) rfl 5 (by decide) k_1 (fun _ h9 => h9) rfl dX11_last_5 ?_
  refine lv_iconst (v := 1) hx hb dX11_last_8 (by decide) ?_
  refine lv_isub hx hb dX11_last_9 ?_
  obtain ⟨h1, hF⟩ := hF
  refine va_iald (n := (σ.2.2.1 3)) (f := (σ.2.2.2.1 3)) hx hb hK hP 3 1 (sm_aM3 σ α) (sm_yM3 α) h1 dX11_last_10 ?_
  exact W.iret (v := ((σ.2.2.2.1 3) ((σ.1 2) - 1).toNatClampNeg)) hx hb hr (fun t ht hW => ⟨⟨((σ.2.2.2.1 3) ((σ.1 2) - 1).toNatClampNeg), σ, rfl, hF, (by unfold sm_B; rw [ht]; exact hP)⟩, hS.F ht⟩) hS.2.2 dX11_last_11
theorem dX11_two_0 : decode cX11_two 0 = .ok (.aload_n 0, 1) := by decide +kernel
theorem dX11_two_1 : decode cX11_two 1 = .ok (.getfield 15, 3) := by decide +kernel
theorem dX11_two_4 : decode cX11_two 4 = .ok (.iload_n 1, 1) := by decide +kernel
theorem dX11_two_5 : decode cX11_two 5 = .ok (.iaload, 1) := by decide +kernel
theorem dX11_two_6 : decode cX11_two 6 = .ok (.bipush 8, 2) := by decide +kernel
theorem dX11_two_8 : decode cX11_two 8 = .ok (.ishl, 1) := by decide +kernel
theorem dX11_two_9 : decode cX11_two 9 = .ok (.aload_n 0, 1) := by decide +kernel
theorem dX11_two_10 : decode cX11_two 10 = .ok (.getfield 15, 3) := by decide +kernel
theorem dX11_two_13 : decode cX11_two 13 = .ok (.iload_n 1, 1) := by decide +kernel
theorem dX11_two_14 : decode cX11_two 14 = .ok (.iconst 1, 1) := by decide +kernel
theorem dX11_two_15 : decode cX11_two 15 = .ok (.iadd, 1) := by decide +kernel
theorem dX11_two_16 : decode cX11_two 16 = .ok (.iaload, 1) := by decide +kernel
theorem dX11_two_17 : decode cX11_two 17 = .ok (.ior, 1) := by decide +kernel
theorem dX11_two_18 : decode cX11_two 18 = .ok (.ireturn, 1) := by decide +kernel
def wp_X11_two : List Cond := .code yX11_two cX11_two 2 (some .int) :: ([.fieldLink RX11 15 "SteadyMachineModel$Image" "image" "[I"] ++ wsX110)
theorem wq_X11_two : wp_X11_two.all goodWord = true := wa_c rfl (wa_a (by decide +kernel) uq_X11)
theorem wt_X11_two : GoodIn lw_tbl wp_X11_two := wm_c (List.mem_of_getElem? (i := 1247) (by decide +kernel)) rfl (wm_a (goodIn_r _ [1384] (by decide +kernel) (by decide +kernel)) ut_X11)
theorem wi_X11_two_X11 : ∀ w ∈ wsX110, w ∈ wp_X11_two := fun w h => List.mem_cons_of_mem _ (List.mem_append_right _ h)
set_option maxHeartbeats 4000000 in
set_option maxRecDepth 100000 in
theorem c_X11_two (l : Launch) (D : va_G) (sz t0 : Nat) (σ : sm_S) (α : sm_A) (p1 : Int32) (K : Int32 → sm_S → Prop) (hF : mp_X11_two σ p1 K) : Met l yX11_two wp_X11_two { frames := 0, cells := 0, slots := 0, locals := 0 } (sm_P sm_wM sm_tM 40 D sz t0 σ α [.ref (α.1 0), .int p1]) (va_Qi K (sm_B sm_wM D α) (sm_a α 40 sz)) 0 0 (sm_a α 40 sz) := by
  refine Met.ofW (cc := cX11_two) (maxL := 2) (ret := (some .int)) (by decide) rfl ?_
  intro p e s m args below meth c s₁ B hml hv
  obtain ⟨rfl, hsz, hP, hK, hD0, hE⟩ := hv
  have hx := B.exec
  have hb := B.bytes
  have hr := B.returns
  have hts := atoms_spec (ws := wp_X11_two) B.pre
  have hown : s.vm.findClass RX11 = some m.cls := findClass_of_methodNamed B.named
  have hlocks := B.notSynchronized
  subst hsz
  have hD : sm_D (sm_a α 40 s.heap.size) α 40 := hD0.own
  have hA : ∀ q : Nat, s.heap.size ≤ q → sm_a α 40 s.heap.size q := fun q h => Or.inr h
  generalize hAe : sm_a α 40 s.heap.size = A at hD hA hE ⊢
  have hS : va_S A s.heap s.heap [] := va_S.rf
  have in_X11 : ∀ w ∈ wsX110, w ∈ wp_X11_two := wi_X11_two_X11
  have k_0 := hts (.fieldLink RX11 15 "SteadyMachineModel$Image" "image" "[I") (by decide +kernel)
  have hl := lv_entry ([.ref (α.1 0), .int p1]) (n := 2) (Nat.le_of_ble_eq_true rfl)
  rw [lg_entry_eq]
  generalize (lg_sl ([.ref (α.1 0), .int p1]) ++ List.replicate (2 - (lg_sl ([.ref (α.1 0), .int p1])).length) Slot.unset).toArray = ls at hl ⊢
  have hl : lv_has ls 2 [(0, .ref (α.1 0)), (1, .int p1)] := hl
  unfold mp_X11_two at hF
  revert hP hS
  generalize hLo : ([] : List Loc) = locs
  suffices h9 : ∀ (H : Heap) (locs : List Loc), va_P D vwCl (sm_wM σ α) H → va_S A s.heap H locs → W p l e (headSpec wp_X11_two { frames := 0, cells := 0, slots := 0, locals := 0 }).room s m ([.ref (α.1 0), .int p1] : List Value).toArray below meth c H locs 0 0 (MQ below (va_Qi K (sm_B sm_wM D α) A) ([.ref (α.1 0), .int p1] : List Value).toArray s 0 0 A) (F0 m 0 ls []) from fun hP hS => h9 s.heap locs hP hS
  intro H locs hP hS
  refine lv_aload_n hx hb dX11_two_0 rfl (lv_at hl 0 rfl) ?_
  refine va_get (D := D) (ci := 11) (v := .ref (α.1 3)) (C := RX11) (T := TX11) (N := 28) hx hb hts in_X11 hown hK hP 0 (sm_gX11 σ α) rfl 2 (by decide) k_0 (fun _ h9 => h9) rfl dX11_two_1 ?_
  refine lv_iload_n hx hb dX11_two_4 rfl (lv_at hl 1 rfl) ?_
  obtain ⟨h1, hF⟩ := hF
  refine va_iald (n := (σ.2.2.1 3)) (f := (σ.2.2.2.1 3)) hx hb hK hP 3 1 (sm_aM3 σ α) (sm_yM3 α) h1 dX11_two_5 ?_
  refine lv_bipush (v := 8) hx hb dX11_two_6 (by decide) ?_
  refine lv_ishl hx hb dX11_two_8 ?_
  refine lv_aload_n hx hb dX11_two_9 rfl (lv_at hl 0 rfl) ?_
  refine va_get (D := D) (ci := 11) (v := .ref (α.1 3)) (C := RX11) (T := TX11) (N := 28) hx hb hts in_X11 hown hK hP 0 (sm_gX11 σ α) rfl 2 (by decide) k_0 (fun _ h9 => h9) rfl dX11_two_10 ?_
  refine lv_iload_n hx hb dX11_two_13 rfl (lv_at hl 1 rfl) ?_
  refine lv_iconst (v := 1) hx hb dX11_two_14 (by decide) ?_
  refine lv_iadd hx hb dX11_two_15 ?_
  obtain ⟨h2, hF⟩ := hF
  refine va_iald (n := (σ.2.2.1 3)) (f := (σ.2.2.2.1 3)) hx hb hK hP 3 1 (sm_aM3 σ α) (sm_yM3 α) h2 dX11_two_16 ?_
  refine lv_ior hx hb dX11_two_17 ?_
  exact W.iret (v := ((((σ.2.2.2.1 3) p1.toNatClampNeg) <<< (8 &&& 31)) ||| ((σ.2.2.2.1 3) (p1 + 1).toNatClampNeg))) hx hb hr (fun t ht hW => ⟨⟨((((σ.2.2.2.1 3) p1.toNatClampNeg) <<< (8 &&& 31)) ||| ((σ.2.2.2.1 3) (p1 + 1).toNatClampNeg)), σ, rfl, hF, (by unfold sm_B; rw [ht]; exact hP)⟩, hS.F ht⟩) hS.2.2 dX11_two_18
theorem dX11_overClass_0 : decode cX11_overClass 0 = .ok (.aload_n 0, 1) := by decide +kernel
theorem dX11_overClass_1 : decode cX11_overClass 1 = .ok (.iconst 0, 1) := by decide +kernel
theorem dX11_overClass_2 : decode cX11_overClass 2 = .ok (.aload_n 0, 1) := by decide +kernel
theorem dX11_overClass_3 : decode cX11_overClass 3 = .ok (.getfield 91, 3) := by decide +kernel
theorem dX11_overClass_6 : decode cX11_overClass 6 = .ok (.iconst 1, 1) := by decide +kernel
theorem dX11_overClass_7 : decode cX11_overClass 7 = .ok (.isub, 1) := by decide +kernel
theorem dX11_overClass_8 : decode cX11_overClass 8 = .ok (.invokevirtual 94, 3) := by decide +kernel
theorem dX11_overClass_11 : decode cX11_overClass 11 = .ok (.ireturn, 1) := by decide +kernel
def wp_X11_overClass : List Cond := .code yX11_overClass cX11_overClass 1 (some .boolean) :: (([.fieldLink RX11 91 "SteadyMachineModel$Image" "classes" "I"] ++ (wsV RX11 94 RX11 yX11_over wp_X11_over)) ++ wsX110)
theorem wq_X11_overClass : wp_X11_overClass.all goodWord = true := wa_c rfl (wa_a (wa_a (by decide +kernel) (wa_V wq_X11_over)) uq_X11)
theorem wt_X11_overClass : GoodIn lw_tbl wp_X11_overClass := wm_c (List.mem_of_getElem? (i := 1239) (by decide +kernel)) rfl (wm_a (wm_a (goodIn_r _ [1392] (by decide +kernel) (by decide +kernel)) (wm_a (goodIn_r _ [1212, 1214, 69, 148] (by decide +kernel) (by decide +kernel)) wt_X11_over)) ut_X11)
theorem wg_X11_overClass_X11_over_94 : GoodIn wp_X11_overClass (wsV RX11 94 RX11 yX11_over wp_X11_over) := goodIn_sub (fun w h => List.mem_cons_of_mem _ (List.mem_append_left _ (List.mem_append_right _ h))) (wa_V wq_X11_over)
theorem wi_X11_overClass_X11 : ∀ w ∈ wsX110, w ∈ wp_X11_overClass := fun w h => List.mem_cons_of_mem _ (List.mem_append_right _ h)
set_option maxHeartbeats 4000000 in
set_option maxRecDepth 100000 in
theorem c_X11_overClass (l : Launch) (D : va_G) (sz t0 : Nat) (σ : sm_S) (α : sm_A) (K : Int32 → sm_S → Prop) (hF : mp_X11_overClass σ K) : Met l yX11_overClass wp_X11_overClass { frames := 2, cells := 0, slots := 0, locals := 43 } (sm_P sm_wM sm_tM 40 D sz t0 σ α [.ref (α.1 0)]) (va_Qi K (sm_B sm_wM D α) (sm_a α 40 sz)) 0 0 (sm_a α 40 sz) := by
  refine Met.ofW (cc := cX11_overClass) (maxL := 1) (ret := (some .boolean)) (by decide) rfl ?_
  intro p e s m args below meth c s₁ B hml hv
  obtain ⟨rfl, hsz, hP, hK, hD0, hE⟩ := hv
  have hx := B.exec
  have hb := B.bytes
  have hr := B.returns
  have hts := atoms_spec (ws := wp_X11_overClass) B.pre
  have hown : s.vm.findClass RX11 = some m.cls := findClass_of_methodNamed B.named
  have hlocks := B.notSynchronized
  subst hsz
  have hD : sm_D (sm_a α 40 s.heap.size) α 40 := hD0.own
  have hA : ∀ q : Nat, s.heap.size ≤ q → sm_a α 40 s.heap.size q := fun q h => Or.inr h
  generalize hAe : sm_a α 40 s.heap.size = A at hD hA hE ⊢
  have hS : va_S A s.heap s.heap [] := va_S.rf
  have in_X11 : ∀ w ∈ wsX110, w ∈ wp_X11_overClass := wi_X11_overClass_X11
  have k_0 := hts (.fieldLink RX11 91 "SteadyMachineModel$Image" "classes" "I") (by decide +kernel)
  have hl := lv_entry ([.ref (α.1 0)]) (n := 1) (Nat.le_of_ble_eq_true rfl)
  rw [lg_entry_eq]
  generalize (lg_sl ([.ref (α.1 0)]) ++ List.replicate (1 - (lg_sl ([.ref (α.1 0)])).length) Slot.unset).toArray = ls at hl ⊢
  have hl : lv_has ls 1 [(0, .ref (α.1 0))] := hl
  unfold mp_X11_overClass at hF
  revert hP hS
  generalize hLo : ([] : List Loc) = locs
  suffices h9 : ∀ (H : Heap) (locs : List Loc), va_P D vwCl (sm_wM σ α) H → va_S A s.heap H locs → W p l e (headSpec wp_X11_overClass { frames := 2, cells := 0, slots := 0, locals := 43 }).room s m ([.ref (α.1 0)] : List Value).toArray below meth c H locs 0 0 (MQ below (va_Qi K (sm_B sm_wM D α) A) ([.ref (α.1 0)] : List Value).toArray s 0 0 A) (F0 m 0 ls []) from fun hP hS => h9 s.heap locs hP hS
  intro H locs hP hS
  refine lv_aload_n hx hb dX11_overClass_0 rfl (lv_at hl 0 rfl) ?_
  refine lv_iconst (v := 0) hx hb dX11_overClass_1 (by decide) ?_
  refine lv_aload_n hx hb dX11_overClass_2 rfl (lv_at hl 0 rfl) ?_
  refine va_get (D := D) (ci := 11) (v := .int (σ.1 5)) (C := RX11) (T := TX11) (N := 28) hx hb hts in_X11 hown hK hP 0 (sm_gX11 σ α) rfl 8 (by decide) k_0 (fun _ h9 => h9) rfl dX11_overClass_3 ?_
  refine lv_iconst (v := 1) hx hb dX11_overClass_6 (by decide) ?_
  refine lv_isub hx hb dX11_overClass_7 ?_
  refine sm_vi (As := [.int 0, .int ((σ.1 5) - 1)]) (rest := []) hP hK hD hE hS hA ⟨hx, hb, hml, hown, hts⟩ hl.1 (c_X11_over l D H.size t0 σ α 0 ((σ.1 5) - 1) _ hF) (cwV 2 hts wg_X11_overClass_X11_over_94 rfl rfl rfl (by decide +kernel) ⟨Nat.le_of_ble_eq_true rfl, Nat.le_of_ble_eq_true rfl⟩) (va_recv hK hP (ci := 11) (q0 := 0) rfl (sm_gX11 σ α)) rfl rfl (Nat.le_of_ble_eq_true rfl) dX11_overClass_8 ⟨Nat.zero_le _, Nat.zero_le _⟩ (fun r2 σ1 H locs hF hP hS => ?_)
  obtain ⟨h3, hF⟩ := hF
  exact W.zret (v := r2) hx hb hr h3.1 (fun t ht hW => ⟨⟨r2, σ1, rfl, hF, (by unfold sm_B; rw [ht]; exact hP)⟩, hS.F ht⟩) hS.2.2 dX11_overClass_11
theorem dX11_overType_0 : decode cX11_overType 0 = .ok (.aload_n 0, 1) := by decide +kernel
theorem dX11_overType_1 : decode cX11_overType 1 = .ok (.invokevirtual 83, 3) := by decide +kernel
theorem dX11_overType_4 : decode cX11_overType 4 = .ok (.istore_n 2, 1) := by decide +kernel
theorem dX11_overType_5 : decode cX11_overType 5 = .ok (.iload_n 2, 1) := by decide +kernel
theorem dX11_overType_6 : decode cX11_overType 6 = .ok (.aload_n 0, 1) := by decide +kernel
theorem dX11_overType_7 : decode cX11_overType 7 = .ok (.getfield 91, 3) := by decide +kernel
theorem dX11_overType_10 : decode cX11_overType 10 = .ok (.if_icmp .le 31, 3) := by decide +kernel
theorem dX11_overType_13 : decode cX11_overType 13 = .ok (.iload_n 2, 1) := by decide +kernel
theorem dX11_overType_14 : decode cX11_overType 14 = .ok (.bipush 64, 2) := by decide +kernel
theorem dX11_overType_16 : decode cX11_overType 16 = .ok (.if_icmp .lt 14, 3) := by decide +kernel
theorem dX11_overType_19 : decode cX11_overType 19 = .ok (.iload_n 2, 1) := by decide +kernel
theorem dX11_overType_20 : decode cX11_overType 20 = .ok (.bipush 64, 2) := by decide +kernel
theorem dX11_overType_22 : decode cX11_overType 22 = .ok (.aload_n 0, 1) := by decide +kernel
theorem dX11_overType_23 : decode cX11_overType 23 = .ok (.getfield 91, 3) := by decide +kernel
theorem dX11_overType_26 : decode cX11_overType 26 = .ok (.iadd, 1) := by decide +kernel
theorem dX11_overType_27 : decode cX11_overType 27 = .ok (.if_icmp .le 14, 3) := by decide +kernel
theorem dX11_overType_30 : decode cX11_overType 30 = .ok (.iload_n 1, 1) := by decide +kernel
theorem dX11_overType_31 : decode cX11_overType 31 = .ok (.ifCond .eq 14, 3) := by decide +kernel
theorem dX11_overType_34 : decode cX11_overType 34 = .ok (.iload_n 2, 1) := by decide +kernel
theorem dX11_overType_35 : decode cX11_overType 35 = .ok (.sipush 255, 3) := by decide +kernel
theorem dX11_overType_38 : decode cX11_overType 38 = .ok (.if_icmp .ne 7, 3) := by decide +kernel
theorem dX11_overType_41 : decode cX11_overType 41 = .ok (.iconst 1, 1) := by decide +kernel
theorem dX11_overType_42 : decode cX11_overType 42 = .ok (.goto 4, 3) := by decide +kernel
theorem dX11_overType_45 : decode cX11_overType 45 = .ok (.iconst 0, 1) := by decide +kernel
theorem dX11_overType_46 : decode cX11_overType 46 = .ok (.istore_n 3, 1) := by decide +kernel
theorem dX11_overType_47 : decode cX11_overType 47 = .ok (.iload_n 3, 1) := by decide +kernel
theorem dX11_overType_48 : decode cX11_overType 48 = .ok (.ifCond .ne 12, 3) := by decide +kernel
theorem dX11_overType_51 : decode cX11_overType 51 = .ok (.aload_n 0, 1) := by decide +kernel
theorem dX11_overType_52 : decode cX11_overType 52 = .ok (.aload_n 0, 1) := by decide +kernel
theorem dX11_overType_53 : decode cX11_overType 53 = .ok (.getfield 77, 3) := by decide +kernel
theorem dX11_overType_56 : decode cX11_overType 56 = .ok (.invokevirtual 87, 3) := by decide +kernel
theorem dX11_overType_59 : decode cX11_overType 59 = .ok (.ireturn, 1) := by decide +kernel
theorem dX11_overType_60 : decode cX11_overType 60 = .ok (.aload_n 0, 1) := by decide +kernel
theorem dX11_overType_61 : decode cX11_overType 61 = .ok (.dup, 1) := by decide +kernel
theorem dX11_overType_62 : decode cX11_overType 62 = .ok (.getfield 77, 3) := by decide +kernel
theorem dX11_overType_65 : decode cX11_overType 65 = .ok (.iconst 1, 1) := by decide +kernel
theorem dX11_overType_66 : decode cX11_overType 66 = .ok (.iadd, 1) := by decide +kernel
theorem dX11_overType_67 : decode cX11_overType 67 = .ok (.putfield 77, 3) := by decide +kernel
theorem dX11_overType_70 : decode cX11_overType 70 = .ok (.iconst 1, 1) := by decide +kernel
theorem dX11_overType_71 : decode cX11_overType 71 = .ok (.ireturn, 1) := by decide +kernel
def wp_X11_overType : List Cond := .code yX11_overType cX11_overType 4 (some .boolean) :: ((([.fieldLink RX11 77 "SteadyMachineModel$Image" "place" "I", .fieldLink RX11 91 "SteadyMachineModel$Image" "classes" "I"] ++ (wsV RX11 87 RX11 yX11_bad wp_X11_bad)) ++ (wsV RX11 83 RX11 yX11_here wp_X11_here)) ++ wsX110)
theorem wq_X11_overType : wp_X11_overType.all goodWord = true := wa_c rfl (wa_a (wa_a (wa_a (by decide +kernel) (wa_V wq_X11_bad)) (wa_V wq_X11_here)) uq_X11)
theorem wt_X11_overType : GoodIn lw_tbl wp_X11_overType := wm_c (List.mem_of_getElem? (i := 1235) (by decide +kernel)) rfl (wm_a (wm_a (wm_a (goodIn_r _ [1388, 1392] (by decide +kernel) (by decide +kernel)) (wm_a (goodIn_r _ [1220, 1222, 71, 148] (by decide +kernel) (by decide +kernel)) wt_X11_bad)) (wm_a (goodIn_r _ [1216, 1218, 70, 148] (by decide +kernel) (by decide +kernel)) wt_X11_here)) ut_X11)
theorem wg_X11_overType_X11_bad_87 : GoodIn wp_X11_overType (wsV RX11 87 RX11 yX11_bad wp_X11_bad) := goodIn_sub (fun w h => List.mem_cons_of_mem _ (List.mem_append_left _ (List.mem_append_left _ (List.mem_append_right _ h)))) (wa_V wq_X11_bad)
theorem wg_X11_overType_X11_here_83 : GoodIn wp_X11_overType (wsV RX11 83 RX11 yX11_here wp_X11_here) := goodIn_sub (fun w h => List.mem_cons_of_mem _ (List.mem_append_left _ (List.mem_append_right _ h))) (wa_V wq_X11_here)
theorem wi_X11_overType_X11 : ∀ w ∈ wsX110, w ∈ wp_X11_overType := fun w h => List.mem_cons_of_mem _ (List.mem_append_right _ h)
set_option maxHeartbeats 4000000 in
set_option maxRecDepth 100000 in
theorem c_X11_overType (l : Launch) (D : va_G) (sz t0 : Nat) (σ : sm_S) (α : sm_A) (p1 : Int32) (K : Int32 → sm_S → Prop) (hF : mp_X11_overType σ p1 K) : Met l yX11_overType wp_X11_overType { frames := 1, cells := 0, slots := 0, locals := 21 } (sm_P sm_wM sm_tM 40 D sz t0 σ α [.ref (α.1 0), .int p1]) (va_Qi K (sm_B sm_wM D α) (sm_a α 40 sz)) 0 0 (sm_a α 40 sz) := by
  refine Met.ofW (cc := cX11_overType) (maxL := 4) (ret := (some .boolean)) (by decide) rfl ?_
  intro p e s m args below meth c s₁ B hml hv
  obtain ⟨rfl, hsz, hP, hK, hD0, hE⟩ := hv
  have hx := B.exec
  have hb := B.bytes
  have hr := B.returns
  have hts := atoms_spec (ws := wp_X11_overType) B.pre
  have hown : s.vm.findClass RX11 = some m.cls := findClass_of_methodNamed B.named
  have hlocks := B.notSynchronized
  subst hsz
  have hD : sm_D (sm_a α 40 s.heap.size) α 40 := hD0.own
  have hA : ∀ q : Nat, s.heap.size ≤ q → sm_a α 40 s.heap.size q := fun q h => Or.inr h
  generalize hAe : sm_a α 40 s.heap.size = A at hD hA hE ⊢
  have hS : va_S A s.heap s.heap [] := va_S.rf
  have in_X11 : ∀ w ∈ wsX110, w ∈ wp_X11_overType := wi_X11_overType_X11
  have k_0 := hts (.fieldLink RX11 77 "SteadyMachineModel$Image" "place" "I") (by decide +kernel)
  have k_1 := hts (.fieldLink RX11 91 "SteadyMachineModel$Image" "classes" "I") (by decide +kernel)
  have hl := lv_entry ([.ref (α.1 0), .int p1]) (n := 4) (Nat.le_of_ble_eq_true rfl)
  rw [lg_entry_eq]
  generalize (lg_sl ([.ref (α.1 0), .int p1]) ++ List.replicate (4 - (lg_sl ([.ref (α.1 0), .int p1])).length) Slot.unset).toArray = ls at hl ⊢
  have hl : lv_has ls 4 [(0, .ref (α.1 0)), (1, .int p1)] := hl
  have B46 : ∀ (σ : sm_S) (y0 : Int32), mp_X11_overType_46 K σ y0 → sm_J p l e (headSpec wp_X11_overType { frames := 1, cells := 0, slots := 0, locals := 21 }).room s m ([.ref (α.1 0), .int p1] : List Value).toArray below meth c (MQ below (va_Qi K (sm_B sm_wM D α) A) ([.ref (α.1 0), .int p1] : List Value).toArray s 0 0 A) D A 4 (sm_wM σ α) 46 [(0, .ref (α.1 0))] [.int y0] := by
    intro σ y0 hF H locs ls hP hS hl
    unfold mp_X11_overType_46 at hF
    refine lv_istore_n (lv' := [(3, .int y0), (0, .ref (α.1 0))]) hx hb dX11_overType_46 rfl hl (by decide) rfl (fun ls hl => ?_)
    refine lv_iload_n hx hb dX11_overType_47 rfl (lv_at hl 0 rfl) ?_
    refine lv_if_ne (tgt := 60) hx hb dX11_overType_48 (by decide) (fun h1 => ?_) (fun h1 => ?_)
    · replace hF := hF.1 h1
      refine lv_aload_n hx hb dX11_overType_60 rfl (lv_at hl 1 rfl) ?_
      refine lv_dup hx hb dX11_overType_61 rfl ?_
      refine va_get (D := D) (ci := 11) (v := .int (σ.1 2)) (C := RX11) (T := TX11) (N := 28) hx hb hts in_X11 hown hK hP 0 (sm_gX11 σ α) rfl 5 (by decide) k_0 (fun _ h9 => h9) rfl dX11_overType_62 ?_
      refine lv_iconst (v := 1) hx hb dX11_overType_65 (by decide) ?_
      refine lv_iadd hx hb dX11_overType_66 ?_
      refine va_put (D := D) (ci := 11) (v := .int ((σ.1 2) + 1)) (ty := .int) (C := RX11) (T := TX11) (N := 28) hx hb hts in_X11 tyX11 tyX11_ok nmX11 hown hK hP (hD.to (sm_wM_m _ _)) hS 0 (sm_gX11 σ α) rfl 5 (by decide) k_0 (fun _ h9 => h9) rfl (by decide +kernel) rfl rfl (Nat.le_of_ble_eq_true rfl) dX11_overType_67 (fun H locs hP _ hS => ?_)
      rw [sm_iM2] at hP
      obtain ⟨σ2, eσ2⟩ : ∃ x : sm_S, x = sm_i σ 2 ((σ.1 2) + 1) := ⟨_, rfl⟩
      replace hF := hF σ2 eσ2
      rw [← eσ2] at hP
      refine lv_iconst (v := 1) hx hb dX11_overType_70 (by decide) ?_
      exact W.zret (v := 1) hx hb hr sm_z1.1 (fun t ht hW => ⟨⟨1, σ2, rfl, hF, (by unfold sm_B; rw [ht]; exact hP)⟩, hS.F ht⟩) hS.2.2 dX11_overType_71
    · replace hF := hF.2 h1
      refine lv_aload_n hx hb dX11_overType_51 rfl (lv_at hl 1 rfl) ?_
      refine lv_aload_n hx hb dX11_overType_52 rfl (lv_at hl 1 rfl) ?_
      refine va_get (D := D) (ci := 11) (v := .int (σ.1 2)) (C := RX11) (T := TX11) (N := 28) hx hb hts in_X11 hown hK hP 0 (sm_gX11 σ α) rfl 5 (by decide) k_0 (fun _ h9 => h9) rfl dX11_overType_53 ?_
      refine sm_vi (As := [.int (σ.1 2)]) (rest := []) hP hK hD hE hS hA ⟨hx, hb, hml, hown, hts⟩ hl.1 (c_X11_bad l D H.size t0 σ α (σ.1 2) _ hF) (cwV 1 hts wg_X11_overType_X11_bad_87 rfl rfl rfl (by decide +kernel) ⟨Nat.le_of_ble_eq_true rfl, Nat.le_of_ble_eq_true rfl⟩) (va_recv hK hP (ci := 11) (q0 := 0) rfl (sm_gX11 σ α)) rfl rfl (Nat.le_of_ble_eq_true rfl) dX11_overType_56 ⟨Nat.zero_le _, Nat.zero_le _⟩ (fun r4 σ3 H locs hF hP hS => ?_)
      obtain ⟨h5, hF⟩ := hF
      exact W.zret (v := r4) hx hb hr h5.1 (fun t ht hW => ⟨⟨r4, σ3, rfl, hF, (by unfold sm_B; rw [ht]; exact hP)⟩, hS.F ht⟩) hS.2.2 dX11_overType_59
  have B45 : ∀ (σ : sm_S), mp_X11_overType_45 K σ → sm_J p l e (headSpec wp_X11_overType { frames := 1, cells := 0, slots := 0, locals := 21 }).room s m ([.ref (α.1 0), .int p1] : List Value).toArray below meth c (MQ below (va_Qi K (sm_B sm_wM D α) A) ([.ref (α.1 0), .int p1] : List Value).toArray s 0 0 A) D A 4 (sm_wM σ α) 45 [(0, .ref (α.1 0))] [] := by
    intro σ hF H locs ls hP hS hl
    unfold mp_X11_overType_45 at hF
    refine lv_iconst (v := 0) hx hb dX11_overType_45 (by decide) ?_
    exact B46 σ 0 hF H locs ls hP hS (lv_sub hl [0] rfl)
  have B41 : ∀ (σ : sm_S), mp_X11_overType_41 K σ → sm_J p l e (headSpec wp_X11_overType { frames := 1, cells := 0, slots := 0, locals := 21 }).room s m ([.ref (α.1 0), .int p1] : List Value).toArray below meth c (MQ below (va_Qi K (sm_B sm_wM D α) A) ([.ref (α.1 0), .int p1] : List Value).toArray s 0 0 A) D A 4 (sm_wM σ α) 41 [(0, .ref (α.1 0))] [] := by
    intro σ hF H locs ls hP hS hl
    unfold mp_X11_overType_41 at hF
    refine lv_iconst (v := 1) hx hb dX11_overType_41 (by decide) ?_
    refine lv_goto (tgt := 46) hx hb dX11_overType_42 (by decide) ?_
    exact B46 σ 1 hF H locs ls hP hS (lv_sub hl [0] rfl)
  have B30 : ∀ (σ : sm_S) (x1 : Int32) (x2 : Int32), mp_X11_overType_30 K σ x1 x2 → sm_J p l e (headSpec wp_X11_overType { frames := 1, cells := 0, slots := 0, locals := 21 }).room s m ([.ref (α.1 0), .int p1] : List Value).toArray below meth c (MQ below (va_Qi K (sm_B sm_wM D α) A) ([.ref (α.1 0), .int p1] : List Value).toArray s 0 0 A) D A 4 (sm_wM σ α) 30 [(0, .ref (α.1 0)), (1, .int x1), (2, .int x2)] [] := by
    intro σ x1 x2 hF H locs ls hP hS hl
    unfold mp_X11_overType_30 at hF
    refine lv_iload_n hx hb dX11_overType_30 rfl (lv_at hl 1 rfl) ?_
    refine lv_if_eq (tgt := 45) hx hb dX11_overType_31 (by decide) (fun h6 => ?_) (fun h6 => ?_)
    · replace hF := hF.1 h6
      exact B45 σ hF H locs ls hP hS (lv_sub hl [0] rfl)
    · replace hF := hF.2 h6
      refine lv_iload_n hx hb dX11_overType_34 rfl (lv_at hl 2 rfl) ?_
      refine lv_sipush (v := 255) hx hb dX11_overType_35 (by decide) ?_
      refine lv_icmp_ne (tgt := 45) hx hb dX11_overType_38 (by decide) (fun h7 => ?_) (fun h7 => ?_)
      · replace hF := hF.1 h7
        exact B45 σ hF H locs ls hP hS (lv_sub hl [0] rfl)
      · replace hF := hF.2 h7
        exact B41 σ hF H locs ls hP hS (lv_sub hl [0] rfl)
  unfold mp_X11_overType at hF
  revert hP hS
  generalize hLo : ([] : List Loc) = locs
  suffices h9 : ∀ (H : Heap) (locs : List Loc), va_P D vwCl (sm_wM σ α) H → va_S A s.heap H locs → W p l e (headSpec wp_X11_overType { frames := 1, cells := 0, slots := 0, locals := 21 }).room s m ([.ref (α.1 0), .int p1] : List Value).toArray below meth c H locs 0 0 (MQ below (va_Qi K (sm_B sm_wM D α) A) ([.ref (α.1 0), .int p1] : List Value).toArray s 0 0 A) (F0 m 0 ls []) from fun hP hS => h9 s.heap locs hP hS
  intro H locs hP hS
  refine lv_aload_n hx hb dX11_overType_0 rfl (lv_at hl 0 rfl) ?_
  refine sm_vi (As := []) (rest := []) hP hK hD hE hS hA ⟨hx, hb, hml, hown, hts⟩ hl.1 (c_X11_here l D H.size t0 σ α _ hF) (cwV 0 hts wg_X11_overType_X11_here_83 rfl rfl rfl (by decide +kernel) ⟨Nat.le_of_ble_eq_true rfl, Nat.le_of_ble_eq_true rfl⟩) (va_recv hK hP (ci := 11) (q0 := 0) rfl (sm_gX11 σ α)) rfl rfl (Nat.le_of_ble_eq_true rfl) dX11_overType_1 ⟨Nat.zero_le _, Nat.zero_le _⟩ (fun r9 σ8 H locs hF hP hS => ?_)
  refine lv_istore_n (lv' := [(2, .int r9), (0, .ref (α.1 0)), (1, .int p1)]) hx hb dX11_overType_4 rfl hl (by decide) rfl (fun ls hl => ?_)
  refine lv_iload_n hx hb dX11_overType_5 rfl (lv_at hl 0 rfl) ?_
  refine lv_aload_n hx hb dX11_overType_6 rfl (lv_at hl 1 rfl) ?_
  refine va_get (D := D) (ci := 11) (v := .int (σ8.1 5)) (C := RX11) (T := TX11) (N := 28) hx hb hts in_X11 hown hK hP 0 (sm_gX11 σ8 α) rfl 8 (by decide) k_1 (fun _ h9 => h9) rfl dX11_overType_7 ?_
  refine lv_icmp_le (tgt := 41) hx hb dX11_overType_10 (by decide) (fun h10 => ?_) (fun h10 => ?_)
  · replace hF := hF.1 h10
    exact B41 σ8 hF H locs ls hP hS (lv_sub hl [1] rfl)
  · replace hF := hF.2 h10
    refine lv_iload_n hx hb dX11_overType_13 rfl (lv_at hl 0 rfl) ?_
    refine lv_bipush (v := 64) hx hb dX11_overType_14 (by decide) ?_
    refine lv_icmp_lt (tgt := 30) hx hb dX11_overType_16 (by decide) (fun h11 => ?_) (fun h11 => ?_)
    · replace hF := hF.1 h11
      exact B30 σ8 p1 r9 hF H locs ls hP hS (lv_sub hl [1, 2, 0] rfl)
    · replace hF := hF.2 h11
      refine lv_iload_n hx hb dX11_overType_19 rfl (lv_at hl 0 rfl) ?_
      refine lv_bipush (v := 64) hx hb dX11_overType_20 (by decide) ?_
      refine lv_aload_n hx hb dX11_overType_22 rfl (lv_at hl 1 rfl) ?_
      refine va_get (D := D) (ci := 11) (v := .int (σ8.1 5)) (C := RX11) (T := TX11) (N := 28) hx hb hts in_X11 hown hK hP 0 (sm_gX11 σ8 α) rfl 8 (by decide) k_1 (fun _ h9 => h9) rfl dX11_overType_23 ?_
      refine lv_iadd hx hb dX11_overType_26 ?_
      refine lv_icmp_le (tgt := 41) hx hb dX11_overType_27 (by decide) (fun h12 => ?_) (fun h12 => ?_)
      · replace hF := hF.1 h12
        exact B41 σ8 hF H locs ls hP hS (lv_sub hl [1] rfl)
      · replace hF := hF.2 h12
        exact B30 σ8 p1 r9 hF H locs ls hP hS (lv_sub hl [1, 2, 0] rfl)
theorem dX11_readClass_0 : decode cX11_readClass 0 = .ok (.aload_n 0, 1) := by decide +kernel
theorem dX11_readClass_1 : decode cX11_readClass 1 = .ok (.invokevirtual 83, 3) := by decide +kernel
theorem dX11_readClass_4 : decode cX11_readClass 4 = .ok (.sipush 255, 3) := by decide +kernel
theorem dX11_readClass_7 : decode cX11_readClass 7 = .ok (.if_icmp .eq 20, 3) := by decide +kernel
theorem dX11_readClass_10 : decode cX11_readClass 10 = .ok (.aload_n 0, 1) := by decide +kernel
theorem dX11_readClass_11 : decode cX11_readClass 11 = .ok (.invokevirtual 83, 3) := by decide +kernel
theorem dX11_readClass_14 : decode cX11_readClass 14 = .ok (.iload_n 1, 1) := by decide +kernel
theorem dX11_readClass_15 : decode cX11_readClass 15 = .ok (.if_icmp .lt 12, 3) := by decide +kernel
theorem dX11_readClass_18 : decode cX11_readClass 18 = .ok (.aload_n 0, 1) := by decide +kernel
theorem dX11_readClass_19 : decode cX11_readClass 19 = .ok (.aload_n 0, 1) := by decide +kernel
theorem dX11_readClass_20 : decode cX11_readClass 20 = .ok (.getfield 77, 3) := by decide +kernel
theorem dX11_readClass_23 : decode cX11_readClass 23 = .ok (.invokevirtual 87, 3) := by decide +kernel
theorem dX11_readClass_26 : decode cX11_readClass 26 = .ok (.ireturn, 1) := by decide +kernel
theorem dX11_readClass_27 : decode cX11_readClass 27 = .ok (.aload_n 0, 1) := by decide +kernel
theorem dX11_readClass_28 : decode cX11_readClass 28 = .ok (.getfield 22, 3) := by decide +kernel
theorem dX11_readClass_31 : decode cX11_readClass 31 = .ok (.iload_n 1, 1) := by decide +kernel
theorem dX11_readClass_32 : decode cX11_readClass 32 = .ok (.aload_n 0, 1) := by decide +kernel
theorem dX11_readClass_33 : decode cX11_readClass 33 = .ok (.invokevirtual 83, 3) := by decide +kernel
theorem dX11_readClass_36 : decode cX11_readClass 36 = .ok (.sipush 255, 3) := by decide +kernel
theorem dX11_readClass_39 : decode cX11_readClass 39 = .ok (.if_icmp .ne 7, 3) := by decide +kernel
theorem dX11_readClass_42 : decode cX11_readClass 42 = .ok (.iconst (-1), 1) := by decide +kernel
theorem dX11_readClass_43 : decode cX11_readClass 43 = .ok (.goto 7, 3) := by decide +kernel
theorem dX11_readClass_46 : decode cX11_readClass 46 = .ok (.aload_n 0, 1) := by decide +kernel
theorem dX11_readClass_47 : decode cX11_readClass 47 = .ok (.invokevirtual 83, 3) := by decide +kernel
theorem dX11_readClass_50 : decode cX11_readClass 50 = .ok (.iastore, 1) := by decide +kernel
theorem dX11_readClass_51 : decode cX11_readClass 51 = .ok (.aload_n 0, 1) := by decide +kernel
theorem dX11_readClass_52 : decode cX11_readClass 52 = .ok (.dup, 1) := by decide +kernel
theorem dX11_readClass_53 : decode cX11_readClass 53 = .ok (.getfield 77, 3) := by decide +kernel
theorem dX11_readClass_56 : decode cX11_readClass 56 = .ok (.iconst 1, 1) := by decide +kernel
theorem dX11_readClass_57 : decode cX11_readClass 57 = .ok (.iadd, 1) := by decide +kernel
theorem dX11_readClass_58 : decode cX11_readClass 58 = .ok (.putfield 77, 3) := by decide +kernel
theorem dX11_readClass_61 : decode cX11_readClass 61 = .ok (.aload_n 0, 1) := by decide +kernel
theorem dX11_readClass_62 : decode cX11_readClass 62 = .ok (.getfield 22, 3) := by decide +kernel
theorem dX11_readClass_65 : decode cX11_readClass 65 = .ok (.iload_n 1, 1) := by decide +kernel
theorem dX11_readClass_66 : decode cX11_readClass 66 = .ok (.iaload, 1) := by decide +kernel
theorem dX11_readClass_67 : decode cX11_readClass 67 = .ok (.istore_n 2, 1) := by decide +kernel
theorem dX11_readClass_68 : decode cX11_readClass 68 = .ok (.iload_n 2, 1) := by decide +kernel
theorem dX11_readClass_69 : decode cX11_readClass 69 = .ok (.ifCond .ge 7, 3) := by decide +kernel
theorem dX11_readClass_72 : decode cX11_readClass 72 = .ok (.iconst 0, 1) := by decide +kernel
theorem dX11_readClass_73 : decode cX11_readClass 73 = .ok (.goto 9, 3) := by decide +kernel
theorem dX11_readClass_76 : decode cX11_readClass 76 = .ok (.aload_n 0, 1) := by decide +kernel
theorem dX11_readClass_77 : decode cX11_readClass 77 = .ok (.getfield 25, 3) := by decide +kernel
theorem dX11_readClass_80 : decode cX11_readClass 80 = .ok (.iload_n 2, 1) := by decide +kernel
theorem dX11_readClass_81 : decode cX11_readClass 81 = .ok (.iaload, 1) := by decide +kernel
theorem dX11_readClass_82 : decode cX11_readClass 82 = .ok (.istore_n 3, 1) := by decide +kernel
theorem dX11_readClass_83 : decode cX11_readClass 83 = .ok (.iconst 0, 1) := by decide +kernel
theorem dX11_readClass_84 : decode cX11_readClass 84 = .ok (.istore 4, 2) := by decide +kernel
theorem dX11_readClass_86 : decode cX11_readClass 86 = .ok (.iload 4, 2) := by decide +kernel
theorem dX11_readClass_88 : decode cX11_readClass 88 = .ok (.iload_n 3, 1) := by decide +kernel
theorem dX11_readClass_89 : decode cX11_readClass 89 = .ok (.if_icmp .ge 33, 3) := by decide +kernel
theorem dX11_readClass_92 : decode cX11_readClass 92 = .ok (.aload_n 0, 1) := by decide +kernel
theorem dX11_readClass_93 : decode cX11_readClass 93 = .ok (.getfield 28, 3) := by decide +kernel
theorem dX11_readClass_96 : decode cX11_readClass 96 = .ok (.bipush 15, 2) := by decide +kernel
theorem dX11_readClass_98 : decode cX11_readClass 98 = .ok (.iload_n 1, 1) := by decide +kernel
theorem dX11_readClass_99 : decode cX11_readClass 99 = .ok (.imul, 1) := by decide +kernel
theorem dX11_readClass_100 : decode cX11_readClass 100 = .ok (.iload 4, 2) := by decide +kernel
theorem dX11_readClass_102 : decode cX11_readClass 102 = .ok (.iadd, 1) := by decide +kernel
theorem dX11_readClass_103 : decode cX11_readClass 103 = .ok (.aload_n 0, 1) := by decide +kernel
theorem dX11_readClass_104 : decode cX11_readClass 104 = .ok (.getfield 28, 3) := by decide +kernel
theorem dX11_readClass_107 : decode cX11_readClass 107 = .ok (.bipush 15, 2) := by decide +kernel
theorem dX11_readClass_109 : decode cX11_readClass 109 = .ok (.iload_n 2, 1) := by decide +kernel
theorem dX11_readClass_110 : decode cX11_readClass 110 = .ok (.imul, 1) := by decide +kernel
theorem dX11_readClass_111 : decode cX11_readClass 111 = .ok (.iload 4, 2) := by decide +kernel
theorem dX11_readClass_113 : decode cX11_readClass 113 = .ok (.iadd, 1) := by decide +kernel
theorem dX11_readClass_114 : decode cX11_readClass 114 = .ok (.iaload, 1) := by decide +kernel
theorem dX11_readClass_115 : decode cX11_readClass 115 = .ok (.iastore, 1) := by decide +kernel
theorem dX11_readClass_116 : decode cX11_readClass 116 = .ok (.iinc 4 1, 3) := by decide +kernel
theorem dX11_readClass_119 : decode cX11_readClass 119 = .ok (.goto (-33), 3) := by decide +kernel
theorem dX11_readClass_122 : decode cX11_readClass 122 = .ok (.aload_n 0, 1) := by decide +kernel
theorem dX11_readClass_123 : decode cX11_readClass 123 = .ok (.iconst 0, 1) := by decide +kernel
theorem dX11_readClass_124 : decode cX11_readClass 124 = .ok (.bipush 15, 2) := by decide +kernel
theorem dX11_readClass_126 : decode cX11_readClass 126 = .ok (.iload_n 3, 1) := by decide +kernel
theorem dX11_readClass_127 : decode cX11_readClass 127 = .ok (.isub, 1) := by decide +kernel
theorem dX11_readClass_128 : decode cX11_readClass 128 = .ok (.invokevirtual 94, 3) := by decide +kernel
theorem dX11_readClass_131 : decode cX11_readClass 131 = .ok (.ifCond .ne 5, 3) := by decide +kernel
theorem dX11_readClass_134 : decode cX11_readClass 134 = .ok (.iconst 0, 1) := by decide +kernel
theorem dX11_readClass_135 : decode cX11_readClass 135 = .ok (.ireturn, 1) := by decide +kernel
theorem dX11_readClass_136 : decode cX11_readClass 136 = .ok (.aload_n 0, 1) := by decide +kernel
theorem dX11_readClass_137 : decode cX11_readClass 137 = .ok (.getfield 25, 3) := by decide +kernel
theorem dX11_readClass_140 : decode cX11_readClass 140 = .ok (.iload_n 1, 1) := by decide +kernel
theorem dX11_readClass_141 : decode cX11_readClass 141 = .ok (.iload_n 3, 1) := by decide +kernel
theorem dX11_readClass_142 : decode cX11_readClass 142 = .ok (.aload_n 0, 1) := by decide +kernel
theorem dX11_readClass_143 : decode cX11_readClass 143 = .ok (.invokevirtual 98, 3) := by decide +kernel
theorem dX11_readClass_146 : decode cX11_readClass 146 = .ok (.iadd, 1) := by decide +kernel
theorem dX11_readClass_147 : decode cX11_readClass 147 = .ok (.iastore, 1) := by decide +kernel
theorem dX11_readClass_148 : decode cX11_readClass 148 = .ok (.iload_n 3, 1) := by decide +kernel
theorem dX11_readClass_149 : decode cX11_readClass 149 = .ok (.istore 4, 2) := by decide +kernel
theorem dX11_readClass_151 : decode cX11_readClass 151 = .ok (.iload 4, 2) := by decide +kernel
theorem dX11_readClass_153 : decode cX11_readClass 153 = .ok (.aload_n 0, 1) := by decide +kernel
theorem dX11_readClass_154 : decode cX11_readClass 154 = .ok (.getfield 25, 3) := by decide +kernel
theorem dX11_readClass_157 : decode cX11_readClass 157 = .ok (.iload_n 1, 1) := by decide +kernel
theorem dX11_readClass_158 : decode cX11_readClass 158 = .ok (.iaload, 1) := by decide +kernel
theorem dX11_readClass_159 : decode cX11_readClass 159 = .ok (.if_icmp .ge 35, 3) := by decide +kernel
theorem dX11_readClass_162 : decode cX11_readClass 162 = .ok (.aload_n 0, 1) := by decide +kernel
theorem dX11_readClass_163 : decode cX11_readClass 163 = .ok (.iconst 0, 1) := by decide +kernel
theorem dX11_readClass_164 : decode cX11_readClass 164 = .ok (.invokevirtual 101, 3) := by decide +kernel
theorem dX11_readClass_167 : decode cX11_readClass 167 = .ok (.ifCond .ne 5, 3) := by decide +kernel
theorem dX11_readClass_170 : decode cX11_readClass 170 = .ok (.iconst 0, 1) := by decide +kernel
theorem dX11_readClass_171 : decode cX11_readClass 171 = .ok (.ireturn, 1) := by decide +kernel
theorem dX11_readClass_172 : decode cX11_readClass 172 = .ok (.aload_n 0, 1) := by decide +kernel
theorem dX11_readClass_173 : decode cX11_readClass 173 = .ok (.getfield 28, 3) := by decide +kernel
theorem dX11_readClass_176 : decode cX11_readClass 176 = .ok (.bipush 15, 2) := by decide +kernel
theorem dX11_readClass_178 : decode cX11_readClass 178 = .ok (.iload_n 1, 1) := by decide +kernel
theorem dX11_readClass_179 : decode cX11_readClass 179 = .ok (.imul, 1) := by decide +kernel
theorem dX11_readClass_180 : decode cX11_readClass 180 = .ok (.iload 4, 2) := by decide +kernel
theorem dX11_readClass_182 : decode cX11_readClass 182 = .ok (.iadd, 1) := by decide +kernel
theorem dX11_readClass_183 : decode cX11_readClass 183 = .ok (.aload_n 0, 1) := by decide +kernel
theorem dX11_readClass_184 : decode cX11_readClass 184 = .ok (.invokevirtual 98, 3) := by decide +kernel
theorem dX11_readClass_187 : decode cX11_readClass 187 = .ok (.iastore, 1) := by decide +kernel
theorem dX11_readClass_188 : decode cX11_readClass 188 = .ok (.iinc 4 1, 3) := by decide +kernel
theorem dX11_readClass_191 : decode cX11_readClass 191 = .ok (.goto (-40), 3) := by decide +kernel
theorem dX11_readClass_194 : decode cX11_readClass 194 = .ok (.iconst 0, 1) := by decide +kernel
theorem dX11_readClass_195 : decode cX11_readClass 195 = .ok (.istore 4, 2) := by decide +kernel
theorem dX11_readClass_197 : decode cX11_readClass 197 = .ok (.iload 4, 2) := by decide +kernel
theorem dX11_readClass_199 : decode cX11_readClass 199 = .ok (.bipush 16, 2) := by decide +kernel
theorem dX11_readClass_201 : decode cX11_readClass 201 = .ok (.if_icmp .ge 54, 3) := by decide +kernel
theorem dX11_readClass_204 : decode cX11_readClass 204 = .ok (.aload_n 0, 1) := by decide +kernel
theorem dX11_readClass_205 : decode cX11_readClass 205 = .ok (.getfield 31, 3) := by decide +kernel
theorem dX11_readClass_208 : decode cX11_readClass 208 = .ok (.bipush 16, 2) := by decide +kernel
theorem dX11_readClass_210 : decode cX11_readClass 210 = .ok (.iload_n 1, 1) := by decide +kernel
theorem dX11_readClass_211 : decode cX11_readClass 211 = .ok (.imul, 1) := by decide +kernel
theorem dX11_readClass_212 : decode cX11_readClass 212 = .ok (.iload 4, 2) := by decide +kernel
theorem dX11_readClass_214 : decode cX11_readClass 214 = .ok (.iadd, 1) := by decide +kernel
theorem dX11_readClass_215 : decode cX11_readClass 215 = .ok (.iload_n 2, 1) := by decide +kernel
theorem dX11_readClass_216 : decode cX11_readClass 216 = .ok (.ifCond .ge 7, 3) := by decide +kernel
theorem dX11_readClass_219 : decode cX11_readClass 219 = .ok (.iconst (-1), 1) := by decide +kernel
theorem dX11_readClass_220 : decode cX11_readClass 220 = .ok (.goto 15, 3) := by decide +kernel
theorem dX11_readClass_223 : decode cX11_readClass 223 = .ok (.aload_n 0, 1) := by decide +kernel
theorem dX11_readClass_224 : decode cX11_readClass 224 = .ok (.getfield 31, 3) := by decide +kernel
theorem dX11_readClass_227 : decode cX11_readClass 227 = .ok (.bipush 16, 2) := by decide +kernel
theorem dX11_readClass_229 : decode cX11_readClass 229 = .ok (.iload_n 2, 1) := by decide +kernel
theorem dX11_readClass_230 : decode cX11_readClass 230 = .ok (.imul, 1) := by decide +kernel
theorem dX11_readClass_231 : decode cX11_readClass 231 = .ok (.iload 4, 2) := by decide +kernel
theorem dX11_readClass_233 : decode cX11_readClass 233 = .ok (.iadd, 1) := by decide +kernel
theorem dX11_readClass_234 : decode cX11_readClass 234 = .ok (.iaload, 1) := by decide +kernel
theorem dX11_readClass_235 : decode cX11_readClass 235 = .ok (.iastore, 1) := by decide +kernel
theorem dX11_readClass_236 : decode cX11_readClass 236 = .ok (.aload_n 0, 1) := by decide +kernel
theorem dX11_readClass_237 : decode cX11_readClass 237 = .ok (.getfield 34, 3) := by decide +kernel
theorem dX11_readClass_240 : decode cX11_readClass 240 = .ok (.bipush 16, 2) := by decide +kernel
theorem dX11_readClass_242 : decode cX11_readClass 242 = .ok (.iload_n 1, 1) := by decide +kernel
theorem dX11_readClass_243 : decode cX11_readClass 243 = .ok (.imul, 1) := by decide +kernel
theorem dX11_readClass_244 : decode cX11_readClass 244 = .ok (.iload 4, 2) := by decide +kernel
theorem dX11_readClass_246 : decode cX11_readClass 246 = .ok (.iadd, 1) := by decide +kernel
theorem dX11_readClass_247 : decode cX11_readClass 247 = .ok (.iconst (-1), 1) := by decide +kernel
theorem dX11_readClass_248 : decode cX11_readClass 248 = .ok (.iastore, 1) := by decide +kernel
theorem dX11_readClass_249 : decode cX11_readClass 249 = .ok (.iinc 4 1, 3) := by decide +kernel
theorem dX11_readClass_252 : decode cX11_readClass 252 = .ok (.goto (-55), 3) := by decide +kernel
theorem dX11_readClass_255 : decode cX11_readClass 255 = .ok (.aload_n 0, 1) := by decide +kernel
theorem dX11_readClass_256 : decode cX11_readClass 256 = .ok (.iconst 0, 1) := by decide +kernel
theorem dX11_readClass_257 : decode cX11_readClass 257 = .ok (.bipush 16, 2) := by decide +kernel
theorem dX11_readClass_259 : decode cX11_readClass 259 = .ok (.invokevirtual 94, 3) := by decide +kernel
theorem dX11_readClass_262 : decode cX11_readClass 262 = .ok (.ifCond .ne 5, 3) := by decide +kernel
theorem dX11_readClass_265 : decode cX11_readClass 265 = .ok (.iconst 0, 1) := by decide +kernel
theorem dX11_readClass_266 : decode cX11_readClass 266 = .ok (.ireturn, 1) := by decide +kernel
theorem dX11_readClass_267 : decode cX11_readClass 267 = .ok (.aload_n 0, 1) := by decide +kernel
theorem dX11_readClass_268 : decode cX11_readClass 268 = .ok (.invokevirtual 98, 3) := by decide +kernel
theorem dX11_readClass_271 : decode cX11_readClass 271 = .ok (.istore 4, 2) := by decide +kernel
theorem dX11_readClass_273 : decode cX11_readClass 273 = .ok (.iconst 0, 1) := by decide +kernel
theorem dX11_readClass_274 : decode cX11_readClass 274 = .ok (.istore 5, 2) := by decide +kernel
theorem dX11_readClass_276 : decode cX11_readClass 276 = .ok (.iconst 0, 1) := by decide +kernel
theorem dX11_readClass_277 : decode cX11_readClass 277 = .ok (.istore 6, 2) := by decide +kernel
theorem dX11_readClass_279 : decode cX11_readClass 279 = .ok (.iload 6, 2) := by decide +kernel
theorem dX11_readClass_281 : decode cX11_readClass 281 = .ok (.iload 4, 2) := by decide +kernel
theorem dX11_readClass_283 : decode cX11_readClass 283 = .ok (.if_icmp .ge 81, 3) := by decide +kernel
theorem dX11_readClass_286 : decode cX11_readClass 286 = .ok (.aload_n 0, 1) := by decide +kernel
theorem dX11_readClass_287 : decode cX11_readClass 287 = .ok (.iload 5, 2) := by decide +kernel
theorem dX11_readClass_289 : decode cX11_readClass 289 = .ok (.bipush 15, 2) := by decide +kernel
theorem dX11_readClass_291 : decode cX11_readClass 291 = .ok (.invokevirtual 94, 3) := by decide +kernel
theorem dX11_readClass_294 : decode cX11_readClass 294 = .ok (.ifCond .ne 5, 3) := by decide +kernel
theorem dX11_readClass_297 : decode cX11_readClass 297 = .ok (.iconst 0, 1) := by decide +kernel
theorem dX11_readClass_298 : decode cX11_readClass 298 = .ok (.ireturn, 1) := by decide +kernel
theorem dX11_readClass_299 : decode cX11_readClass 299 = .ok (.aload_n 0, 1) := by decide +kernel
theorem dX11_readClass_300 : decode cX11_readClass 300 = .ok (.invokevirtual 98, 3) := by decide +kernel
theorem dX11_readClass_303 : decode cX11_readClass 303 = .ok (.istore 7, 2) := by decide +kernel
theorem dX11_readClass_305 : decode cX11_readClass 305 = .ok (.iload 7, 2) := by decide +kernel
theorem dX11_readClass_307 : decode cX11_readClass 307 = .ok (.iconst 1, 1) := by decide +kernel
theorem dX11_readClass_308 : decode cX11_readClass 308 = .ok (.iadd, 1) := by decide +kernel
theorem dX11_readClass_309 : decode cX11_readClass 309 = .ok (.istore 5, 2) := by decide +kernel
theorem dX11_readClass_311 : decode cX11_readClass 311 = .ok (.aload_n 0, 1) := by decide +kernel
theorem dX11_readClass_312 : decode cX11_readClass 312 = .ok (.iconst 0, 1) := by decide +kernel
theorem dX11_readClass_313 : decode cX11_readClass 313 = .ok (.sipush 255, 3) := by decide +kernel
theorem dX11_readClass_316 : decode cX11_readClass 316 = .ok (.invokevirtual 94, 3) := by decide +kernel
theorem dX11_readClass_319 : decode cX11_readClass 319 = .ok (.ifCond .ne 5, 3) := by decide +kernel
theorem dX11_readClass_322 : decode cX11_readClass 322 = .ok (.iconst 0, 1) := by decide +kernel
theorem dX11_readClass_323 : decode cX11_readClass 323 = .ok (.ireturn, 1) := by decide +kernel
theorem dX11_readClass_324 : decode cX11_readClass 324 = .ok (.aload_n 0, 1) := by decide +kernel
theorem dX11_readClass_325 : decode cX11_readClass 325 = .ok (.getfield 31, 3) := by decide +kernel
theorem dX11_readClass_328 : decode cX11_readClass 328 = .ok (.bipush 16, 2) := by decide +kernel
theorem dX11_readClass_330 : decode cX11_readClass 330 = .ok (.iload_n 1, 1) := by decide +kernel
theorem dX11_readClass_331 : decode cX11_readClass 331 = .ok (.imul, 1) := by decide +kernel
theorem dX11_readClass_332 : decode cX11_readClass 332 = .ok (.iload 7, 2) := by decide +kernel
theorem dX11_readClass_334 : decode cX11_readClass 334 = .ok (.iadd, 1) := by decide +kernel
theorem dX11_readClass_335 : decode cX11_readClass 335 = .ok (.aload_n 0, 1) := by decide +kernel
theorem dX11_readClass_336 : decode cX11_readClass 336 = .ok (.invokevirtual 98, 3) := by decide +kernel
theorem dX11_readClass_339 : decode cX11_readClass 339 = .ok (.iastore, 1) := by decide +kernel
theorem dX11_readClass_340 : decode cX11_readClass 340 = .ok (.aload_n 0, 1) := by decide +kernel
theorem dX11_readClass_341 : decode cX11_readClass 341 = .ok (.getfield 34, 3) := by decide +kernel
theorem dX11_readClass_344 : decode cX11_readClass 344 = .ok (.bipush 16, 2) := by decide +kernel
theorem dX11_readClass_346 : decode cX11_readClass 346 = .ok (.iload_n 1, 1) := by decide +kernel
theorem dX11_readClass_347 : decode cX11_readClass 347 = .ok (.imul, 1) := by decide +kernel
theorem dX11_readClass_348 : decode cX11_readClass 348 = .ok (.iload 7, 2) := by decide +kernel
theorem dX11_readClass_350 : decode cX11_readClass 350 = .ok (.iadd, 1) := by decide +kernel
theorem dX11_readClass_351 : decode cX11_readClass 351 = .ok (.aload_n 0, 1) := by decide +kernel
theorem dX11_readClass_352 : decode cX11_readClass 352 = .ok (.getfield 77, 3) := by decide +kernel
theorem dX11_readClass_355 : decode cX11_readClass 355 = .ok (.iconst 1, 1) := by decide +kernel
theorem dX11_readClass_356 : decode cX11_readClass 356 = .ok (.isub, 1) := by decide +kernel
theorem dX11_readClass_357 : decode cX11_readClass 357 = .ok (.iastore, 1) := by decide +kernel
theorem dX11_readClass_358 : decode cX11_readClass 358 = .ok (.iinc 6 1, 3) := by decide +kernel
theorem dX11_readClass_361 : decode cX11_readClass 361 = .ok (.goto (-82), 3) := by decide +kernel
theorem dX11_readClass_364 : decode cX11_readClass 364 = .ok (.iconst 1, 1) := by decide +kernel
theorem dX11_readClass_365 : decode cX11_readClass 365 = .ok (.ireturn, 1) := by decide +kernel
def wp_X11_readClass : List Cond := .code yX11_readClass cX11_readClass 8 (some .boolean) :: (((((([.fieldLink RX11 31 "SteadyMachineModel$Image" "slots" "[I", .fieldLink RX11 34 "SteadyMachineModel$Image" "slotPlaces" "[I", .fieldLink RX11 77 "SteadyMachineModel$Image" "place" "I", .fieldLink RX11 25 "SteadyMachineModel$Image" "fieldCounts" "[I", .fieldLink RX11 28 "SteadyMachineModel$Image" "fieldTypes" "[I", .fieldLink RX11 22 "SteadyMachineModel$Image" "uppers" "[I"] ++ (wsV RX11 94 RX11 yX11_over wp_X11_over)) ++ (wsV RX11 98 RX11 yX11_last wp_X11_last)) ++ (wsV RX11 101 RX11 yX11_overType wp_X11_overType)) ++ (wsV RX11 83 RX11 yX11_here wp_X11_here)) ++ (wsV RX11 87 RX11 yX11_bad wp_X11_bad)) ++ wsX110)
theorem wq_X11_readClass : wp_X11_readClass.all goodWord = true := wa_c rfl (wa_a (wa_a (wa_a (wa_a (wa_a (wa_a (by decide +kernel) (wa_V wq_X11_over)) (wa_V wq_X11_last)) (wa_V wq_X11_overType)) (wa_V wq_X11_here)) (wa_V wq_X11_bad)) uq_X11)
theorem wt_X11_readClass : GoodIn lw_tbl wp_X11_readClass := wm_c (List.mem_of_getElem? (i := 1231) (by decide +kernel)) rfl (wm_a (wm_a (wm_a (wm_a (wm_a (wm_a (goodIn_r _ [1400, 1402, 1388, 1396, 1398, 1394] (by decide +kernel) (by decide +kernel)) (wm_a (goodIn_r _ [1212, 1214, 69, 148] (by decide +kernel) (by decide +kernel)) wt_X11_over)) (wm_a (goodIn_r _ [1224, 1226, 72, 148] (by decide +kernel) (by decide +kernel)) wt_X11_last)) (wm_a (goodIn_r _ [1232, 1234, 74, 148] (by decide +kernel) (by decide +kernel)) wt_X11_overType)) (wm_a (goodIn_r _ [1216, 1218, 70, 148] (by decide +kernel) (by decide +kernel)) wt_X11_here)) (wm_a (goodIn_r _ [1220, 1222, 71, 148] (by decide +kernel) (by decide +kernel)) wt_X11_bad)) ut_X11)
theorem wg_X11_readClass_X11_over_94 : GoodIn wp_X11_readClass (wsV RX11 94 RX11 yX11_over wp_X11_over) := goodIn_sub (fun w h => List.mem_cons_of_mem _ (List.mem_append_left _ (List.mem_append_left _ (List.mem_append_left _ (List.mem_append_left _ (List.mem_append_left _ (List.mem_append_right _ h))))))) (wa_V wq_X11_over)
theorem wg_X11_readClass_X11_last_98 : GoodIn wp_X11_readClass (wsV RX11 98 RX11 yX11_last wp_X11_last) := goodIn_sub (fun w h => List.mem_cons_of_mem _ (List.mem_append_left _ (List.mem_append_left _ (List.mem_append_left _ (List.mem_append_left _ (List.mem_append_right _ h)))))) (wa_V wq_X11_last)
theorem wg_X11_readClass_X11_overType_101 : GoodIn wp_X11_readClass (wsV RX11 101 RX11 yX11_overType wp_X11_overType) := goodIn_sub (fun w h => List.mem_cons_of_mem _ (List.mem_append_left _ (List.mem_append_left _ (List.mem_append_left _ (List.mem_append_right _ h))))) (wa_V wq_X11_overType)
theorem wg_X11_readClass_X11_here_83 : GoodIn wp_X11_readClass (wsV RX11 83 RX11 yX11_here wp_X11_here) := goodIn_sub (fun w h => List.mem_cons_of_mem _ (List.mem_append_left _ (List.mem_append_left _ (List.mem_append_right _ h)))) (wa_V wq_X11_here)
theorem wg_X11_readClass_X11_bad_87 : GoodIn wp_X11_readClass (wsV RX11 87 RX11 yX11_bad wp_X11_bad) := goodIn_sub (fun w h => List.mem_cons_of_mem _ (List.mem_append_left _ (List.mem_append_right _ h))) (wa_V wq_X11_bad)
theorem wi_X11_readClass_X11 : ∀ w ∈ wsX110, w ∈ wp_X11_readClass := fun w h => List.mem_cons_of_mem _ (List.mem_append_right _ h)
set_option maxHeartbeats 4000000 in
set_option maxRecDepth 100000 in
theorem c_X11_readClass (l : Launch) (D : va_G) (sz t0 : Nat) (σ : sm_S) (α : sm_A) (p1 : Int32) (K : Int32 → sm_S → Prop) (hF : mp_X11_readClass σ p1 K) : Met l yX11_readClass wp_X11_readClass { frames := 2, cells := 0, slots := 0, locals := 44 } (sm_P sm_wM sm_tM 40 D sz t0 σ α [.ref (α.1 0), .int p1]) (va_Qi K (sm_B sm_wM D α) (sm_a α 40 sz)) 0 0 (sm_a α 40 sz) := by
  refine Met.ofW (cc := cX11_readClass) (maxL := 8) (ret := (some .boolean)) (by decide) rfl ?_
  intro p e s m args below meth c s₁ B hml hv
  obtain ⟨rfl, hsz, hP, hK, hD0, hE⟩ := hv
  have hx := B.exec
  have hb := B.bytes
  have hr := B.returns
  have hts := atoms_spec (ws := wp_X11_readClass) B.pre
  have hown : s.vm.findClass RX11 = some m.cls := findClass_of_methodNamed B.named
  have hlocks := B.notSynchronized
  subst hsz
  have hD : sm_D (sm_a α 40 s.heap.size) α 40 := hD0.own
  have hA : ∀ q : Nat, s.heap.size ≤ q → sm_a α 40 s.heap.size q := fun q h => Or.inr h
  generalize hAe : sm_a α 40 s.heap.size = A at hD hA hE ⊢
  have hS : va_S A s.heap s.heap [] := va_S.rf
  have in_X11 : ∀ w ∈ wsX110, w ∈ wp_X11_readClass := wi_X11_readClass_X11
  have k_0 := hts (.fieldLink RX11 31 "SteadyMachineModel$Image" "slots" "[I") (by decide +kernel)
  have k_1 := hts (.fieldLink RX11 34 "SteadyMachineModel$Image" "slotPlaces" "[I") (by decide +kernel)
  have k_2 := hts (.fieldLink RX11 77 "SteadyMachineModel$Image" "place" "I") (by decide +kernel)
  have k_3 := hts (.fieldLink RX11 25 "SteadyMachineModel$Image" "fieldCounts" "[I") (by decide +kernel)
  have k_4 := hts (.fieldLink RX11 28 "SteadyMachineModel$Image" "fieldTypes" "[I") (by decide +kernel)
  have k_5 := hts (.fieldLink RX11 22 "SteadyMachineModel$Image" "uppers" "[I") (by decide +kernel)
  have hl := lv_entry ([.ref (α.1 0), .int p1]) (n := 8) (Nat.le_of_ble_eq_true rfl)
  rw [lg_entry_eq]
  generalize (lg_sl ([.ref (α.1 0), .int p1]) ++ List.replicate (8 - (lg_sl ([.ref (α.1 0), .int p1])).length) Slot.unset).toArray = ls at hl ⊢
  have hl : lv_has ls 8 [(0, .ref (α.1 0)), (1, .int p1)] := hl
  have B279 : ∀ (n : Nat) (σ : sm_S) (x1 : Int32) (x4 : Int32) (x5 : Int32) (x6 : Int32), mp_X11_readClass_279 K n σ x1 x4 x5 x6 → sm_J p l e (headSpec wp_X11_readClass { frames := 2, cells := 0, slots := 0, locals := 44 }).room s m ([.ref (α.1 0), .int p1] : List Value).toArray below meth c (MQ below (va_Qi K (sm_B sm_wM D α) A) ([.ref (α.1 0), .int p1] : List Value).toArray s 0 0 A) D A 8 (sm_wM σ α) 279 [(0, .ref (α.1 0)), (1, .int x1), (4, .int x4), (5, .int x5), (6, .int x6)] [] := by
    intro n279
    induction n279 with
    | zero =>
      intro σ x1 x4 x5 x6 hF
      exact hF.elim
    | succ n279 ih279 =>
      intro σ x1 x4 x5 x6 hF H locs ls hP hS hl
      unfold mp_X11_readClass_279 at hF
      refine lv_iload hx hb dX11_readClass_279 (lv_at hl 4 rfl) ?_
      refine lv_iload hx hb dX11_readClass_281 (lv_at hl 2 rfl) ?_
      refine lv_icmp_ge (tgt := 364) hx hb dX11_readClass_283 (by decide) (fun h1 => ?_) (fun h1 => ?_)
      · replace hF := hF.1 h1
        refine lv_iconst (v := 1) hx hb dX11_readClass_364 (by decide) ?_
        exact W.zret (v := 1) hx hb hr sm_z1.1 (fun t ht hW => ⟨⟨1, σ, rfl, hF, (by unfold sm_B; rw [ht]; exact hP)⟩, hS.F ht⟩) hS.2.2 dX11_readClass_365
      · replace hF := hF.2 h1
        refine lv_aload_n hx hb dX11_readClass_286 rfl (lv_at hl 0 rfl) ?_
        refine lv_iload hx hb dX11_readClass_287 (lv_at hl 3 rfl) ?_
        refine lv_bipush (v := 15) hx hb dX11_readClass_289 (by decide) ?_
        refine sm_vi (As := [.int x5, .int 15]) (rest := []) hP hK hD hE hS hA ⟨hx, hb, hml, hown, hts⟩ hl.1 (c_X11_over l D H.size t0 σ α x5 15 _ hF) (cwV 2 hts wg_X11_readClass_X11_over_94 rfl rfl rfl (by decide +kernel) ⟨Nat.le_of_ble_eq_true rfl, Nat.le_of_ble_eq_true rfl⟩) (va_recv hK hP (ci := 11) (q0 := 0) rfl (sm_gX11 σ α)) rfl rfl (Nat.le_of_ble_eq_true rfl) dX11_readClass_291 ⟨Nat.zero_le _, Nat.zero_le _⟩ (fun r3 σ2 H locs hF hP hS => ?_)
        refine lv_if_ne (tgt := 299) hx hb dX11_readClass_294 (by decide) (fun h4 => ?_) (fun h4 => ?_)
        · replace hF := hF.1 h4
          refine lv_aload_n hx hb dX11_readClass_299 rfl (lv_at hl 0 rfl) ?_
          refine sm_vi (As := []) (rest := []) hP hK hD hE hS hA ⟨hx, hb, hml, hown, hts⟩ hl.1 (c_X11_last l D H.size t0 σ2 α _ hF) (cwV 0 hts wg_X11_readClass_X11_last_98 rfl rfl rfl (by decide +kernel) ⟨Nat.le_of_ble_eq_true rfl, Nat.le_of_ble_eq_true rfl⟩) (va_recv hK hP (ci := 11) (q0 := 0) rfl (sm_gX11 σ2 α)) rfl rfl (Nat.le_of_ble_eq_true rfl) dX11_readClass_300 ⟨Nat.zero_le _, Nat.zero_le _⟩ (fun r6 σ5 H locs hF hP hS => ?_)
          refine lv_istore (lv' := [(7, .int r6), (0, .ref (α.1 0)), (1, .int x1), (4, .int x4), (5, .int x5), (6, .int x6)]) hx hb dX11_readClass_303 hl (by decide) rfl (fun ls hl => ?_)
          refine lv_iload hx hb dX11_readClass_305 (lv_at hl 0 rfl) ?_
          refine lv_iconst (v := 1) hx hb dX11_readClass_307 (by decide) ?_
          refine lv_iadd hx hb dX11_readClass_308 ?_
          refine lv_topi (fun v7 ev7 => ?_)
          replace hF := hF v7 ev7
          refine lv_istore (lv' := [(5, .int v7), (7, .int r6), (0, .ref (α.1 0)), (1, .int x1), (4, .int x4), (6, .int x6)]) hx hb dX11_readClass_309 hl (by decide) rfl (fun ls hl => ?_)
          refine lv_aload_n hx hb dX11_readClass_311 rfl (lv_at hl 2 rfl) ?_
          refine lv_iconst (v := 0) hx hb dX11_readClass_312 (by decide) ?_
          refine lv_sipush (v := 255) hx hb dX11_readClass_313 (by decide) ?_
          refine sm_vi (As := [.int 0, .int 255]) (rest := []) hP hK hD hE hS hA ⟨hx, hb, hml, hown, hts⟩ hl.1 (c_X11_over l D H.size t0 σ5 α 0 255 _ hF) (cwV 2 hts wg_X11_readClass_X11_over_94 rfl rfl rfl (by decide +kernel) ⟨Nat.le_of_ble_eq_true rfl, Nat.le_of_ble_eq_true rfl⟩) (va_recv hK hP (ci := 11) (q0 := 0) rfl (sm_gX11 σ5 α)) rfl rfl (Nat.le_of_ble_eq_true rfl) dX11_readClass_316 ⟨Nat.zero_le _, Nat.zero_le _⟩ (fun r9 σ8 H locs hF hP hS => ?_)
          refine lv_if_ne (tgt := 324) hx hb dX11_readClass_319 (by decide) (fun h10 => ?_) (fun h10 => ?_)
          · replace hF := hF.1 h10
            refine lv_aload_n hx hb dX11_readClass_324 rfl (lv_at hl 2 rfl) ?_
            refine va_get (D := D) (ci := 11) (v := .ref (α.1 8)) (C := RX11) (T := TX11) (N := 28) hx hb hts in_X11 hown hK hP 0 (sm_gX11 σ8 α) rfl 12 (by decide) k_0 (fun _ h9 => h9) rfl dX11_readClass_325 ?_
            refine lv_bipush (v := 16) hx hb dX11_readClass_328 (by decide) ?_
            refine lv_iload_n hx hb dX11_readClass_330 rfl (lv_at hl 3 rfl) ?_
            refine lv_imul hx hb dX11_readClass_331 ?_
            refine lv_iload hx hb dX11_readClass_332 (lv_at hl 1 rfl) ?_
            refine lv_iadd hx hb dX11_readClass_334 ?_
            refine lv_aload_n hx hb dX11_readClass_335 rfl (lv_at hl 2 rfl) ?_
            refine sm_vi (As := []) (rest := [.int ((16 * x1) + r6), .ref (α.1 8)]) hP hK hD hE hS hA ⟨hx, hb, hml, hown, hts⟩ hl.1 (c_X11_last l D H.size t0 σ8 α _ hF) (cwV 0 hts wg_X11_readClass_X11_last_98 rfl rfl rfl (by decide +kernel) ⟨Nat.le_of_ble_eq_true rfl, Nat.le_of_ble_eq_true rfl⟩) (va_recv hK hP (ci := 11) (q0 := 0) rfl (sm_gX11 σ8 α)) rfl rfl (Nat.le_of_ble_eq_true rfl) dX11_readClass_336 ⟨Nat.zero_le _, Nat.zero_le _⟩ (fun r12 σ11 H locs hF hP hS => ?_)
            obtain ⟨h13, hF⟩ := hF
            refine va_iast (n := (σ11.2.2.1 8)) (f := (σ11.2.2.2.1 8)) (x := r12) hx hb hK hP (hD.to (sm_wM_m _ _)) hS 8 6 (sm_aM8 σ11 α) (sm_yM8 α) h13 dX11_readClass_339 (fun H locs hP _ hS => ?_)
            rw [sm_rM8] at hP
            obtain ⟨σ14, eσ14⟩ : ∃ x : sm_S, x = sm_r σ11 8 (upd (σ11.2.2.2.1 8) ((16 * x1) + r6).toNatClampNeg r12) := ⟨_, rfl⟩
            replace hF := hF σ14 eσ14
            rw [← eσ14] at hP
            refine lv_aload_n hx hb dX11_readClass_340 rfl (lv_at hl 2 rfl) ?_
            refine va_get (D := D) (ci := 11) (v := .ref (α.1 9)) (C := RX11) (T := TX11) (N := 28) hx hb hts in_X11 hown hK hP 0 (sm_gX11 σ14 α) rfl 13 (by decide) k_1 (fun _ h9 => h9) rfl dX11_readClass_341 ?_
            refine lv_bipush (v := 16) hx hb dX11_readClass_344 (by decide) ?_
            refine lv_iload_n hx hb dX11_readClass_346 rfl (lv_at hl 3 rfl) ?_
            refine lv_imul hx hb dX11_readClass_347 ?_
            refine lv_iload hx hb dX11_readClass_348 (lv_at hl 1 rfl) ?_
            refine lv_iadd hx hb dX11_readClass_350 ?_
            refine lv_aload_n hx hb dX11_readClass_351 rfl (lv_at hl 2 rfl) ?_
            refine va_get (D := D) (ci := 11) (v := .int (σ14.1 2)) (C := RX11) (T := TX11) (N := 28) hx hb hts in_X11 hown hK hP 0 (sm_gX11 σ14 α) rfl 5 (by decide) k_2 (fun _ h9 => h9) rfl dX11_readClass_352 ?_
            refine lv_iconst (v := 1) hx hb dX11_readClass_355 (by decide) ?_
            refine lv_isub hx hb dX11_readClass_356 ?_
            obtain ⟨h15, hF⟩ := hF
            refine va_iast (n := (σ14.2.2.1 9)) (f := (σ14.2.2.2.1 9)) (x := ((σ14.1 2) - 1)) hx hb hK hP (hD.to (sm_wM_m _ _)) hS 9 7 (sm_aM9 σ14 α) (sm_yM9 α) h15 dX11_readClass_357 (fun H locs hP _ hS => ?_)
            rw [sm_rM9] at hP
            obtain ⟨σ16, eσ16⟩ : ∃ x : sm_S, x = sm_r σ14 9 (upd (σ14.2.2.2.1 9) ((16 * x1) + r6).toNatClampNeg ((σ14.1 2) - 1)) := ⟨_, rfl⟩
            replace hF := hF σ16 eσ16
            rw [← eσ16] at hP
            obtain ⟨v17, ev17⟩ : ∃ y : Int32, y = x6 + 1 := ⟨_, rfl⟩
            replace hF := hF v17 ev17
            refine lv_iinc (v := v17) (lv' := [(6, .int v17), (5, .int v7), (7, .int r6), (0, .ref (α.1 0)), (1, .int x1), (4, .int x4)]) hx hb dX11_readClass_358 hl (k := 5) rfl (by rw [ev17]; rfl) (by decide) rfl (fun ls hl => ?_)
            refine lv_goto (tgt := 279) hx hb dX11_readClass_361 (by decide) ?_
            exact ih279 σ16 x1 x4 v7 v17 hF H locs ls hP hS (lv_sub hl [3, 4, 5, 1, 0] rfl)
          · replace hF := hF.2 h10
            refine lv_iconst (v := 0) hx hb dX11_readClass_322 (by decide) ?_
            exact W.zret (v := 0) hx hb hr sm_z0.1 (fun t ht hW => ⟨⟨0, σ8, rfl, hF, (by unfold sm_B; rw [ht]; exact hP)⟩, hS.F ht⟩) hS.2.2 dX11_readClass_323
        · replace hF := hF.2 h4
          refine lv_iconst (v := 0) hx hb dX11_readClass_297 (by decide) ?_
          exact W.zret (v := 0) hx hb hr sm_z0.1 (fun t ht hW => ⟨⟨0, σ2, rfl, hF, (by unfold sm_B; rw [ht]; exact hP)⟩, hS.F ht⟩) hS.2.2 dX11_readClass_298
  have B235 : ∀ (L197 : sm_S → Int32 → Int32 → Int32 → Prop) (hL197 : ∀ (σ : sm_S) (x1 : Int32) (x2 : Int32) (x4 : Int32), L197 σ x1 x2 x4 → sm_J p l e (headSpec wp_X11_readClass { frames := 2, cells := 0, slots := 0, locals := 44 }).room s m ([.ref (α.1 0), .int p1] : List Value).toArray below meth c (MQ below (va_Qi K (sm_B sm_wM D α) A) ([.ref (α.1 0), .int p1] : List Value).toArray s 0 0 A) D A 8 (sm_wM σ α) 197 [(0, .ref (α.1 0)), (1, .int x1), (2, .int x2), (4, .int x4)] []) (σ : sm_S) (x1 : Int32) (x2 : Int32) (x4 : Int32) (y1 : Int32) (y2 : Int32), mp_X11_readClass_235 L197 K σ x1 x2 x4 y1 y2 → sm_J p l e (headSpec wp_X11_readClass { frames := 2, cells := 0, slots := 0, locals := 44 }).room s m ([.ref (α.1 0), .int p1] : List Value).toArray below meth c (MQ below (va_Qi K (sm_B sm_wM D α) A) ([.ref (α.1 0), .int p1] : List Value).toArray s 0 0 A) D A 8 (sm_wM σ α) 235 [(0, .ref (α.1 0)), (1, .int x1), (2, .int x2), (4, .int x4)] [.int y2, .int y1, .ref (α.1 8)] := by
    intro L197 hL197 σ x1 x2 x4 y1 y2 hF H locs ls hP hS hl
    unfold mp_X11_readClass_235 at hF
    obtain ⟨h18, hF⟩ := hF
    refine va_iast (n := (σ.2.2.1 8)) (f := (σ.2.2.2.1 8)) (x := y2) hx hb hK hP (hD.to (sm_wM_m _ _)) hS 8 6 (sm_aM8 σ α) (sm_yM8 α) h18 dX11_readClass_235 (fun H locs hP _ hS => ?_)
    rw [sm_rM8] at hP
    obtain ⟨σ19, eσ19⟩ : ∃ x : sm_S, x = sm_r σ 8 (upd (σ.2.2.2.1 8) y1.toNatClampNeg y2) := ⟨_, rfl⟩
    replace hF := hF σ19 eσ19
    rw [← eσ19] at hP
    refine lv_aload_n hx hb dX11_readClass_236 rfl (lv_at hl 0 rfl) ?_
    refine va_get (D := D) (ci := 11) (v := .ref (α.1 9)) (C := RX11) (T := TX11) (N := 28) hx hb hts in_X11 hown hK hP 0 (sm_gX11 σ19 α) rfl 13 (by decide) k_1 (fun _ h9 => h9) rfl dX11_readClass_237 ?_
    refine lv_bipush (v := 16) hx hb dX11_readClass_240 (by decide) ?_
    refine lv_iload_n hx hb dX11_readClass_242 rfl (lv_at hl 1 rfl) ?_
    refine lv_imul hx hb dX11_readClass_243 ?_
    refine lv_iload hx hb dX11_readClass_244 (lv_at hl 3 rfl) ?_
    refine lv_iadd hx hb dX11_readClass_246 ?_
    refine lv_iconst (v := -1) hx hb dX11_readClass_247 (by decide) ?_
    obtain ⟨h20, hF⟩ := hF
    refine va_iast (n := (σ19.2.2.1 9)) (f := (σ19.2.2.2.1 9)) (x := (-1)) hx hb hK hP (hD.to (sm_wM_m _ _)) hS 9 7 (sm_aM9 σ19 α) (sm_yM9 α) h20 dX11_readClass_248 (fun H locs hP _ hS => ?_)
    rw [sm_rM9] at hP
    obtain ⟨σ21, eσ21⟩ : ∃ x : sm_S, x = sm_r σ19 9 (upd (σ19.2.2.2.1 9) ((16 * x1) + x4).toNatClampNeg (-1)) := ⟨_, rfl⟩
    replace hF := hF σ21 eσ21
    rw [← eσ21] at hP
    obtain ⟨v22, ev22⟩ : ∃ y : Int32, y = x4 + 1 := ⟨_, rfl⟩
    replace hF := hF v22 ev22
    refine lv_iinc (v := v22) (lv' := [(4, .int v22), (0, .ref (α.1 0)), (1, .int x1), (2, .int x2)]) hx hb dX11_readClass_249 hl (k := 3) rfl (by rw [ev22]; rfl) (by decide) rfl (fun ls hl => ?_)
    refine lv_goto (tgt := 197) hx hb dX11_readClass_252 (by decide) ?_
    exact hL197 σ21 x1 x2 v22 hF H locs ls hP hS (lv_sub hl [1, 2, 3, 0] rfl)
  have B197 : ∀ (n : Nat) (σ : sm_S) (x1 : Int32) (x2 : Int32) (x4 : Int32), mp_X11_readClass_197 K n σ x1 x2 x4 → sm_J p l e (headSpec wp_X11_readClass { frames := 2, cells := 0, slots := 0, locals := 44 }).room s m ([.ref (α.1 0), .int p1] : List Value).toArray below meth c (MQ below (va_Qi K (sm_B sm_wM D α) A) ([.ref (α.1 0), .int p1] : List Value).toArray s 0 0 A) D A 8 (sm_wM σ α) 197 [(0, .ref (α.1 0)), (1, .int x1), (2, .int x2), (4, .int x4)] [] := by
    intro n197
    induction n197 with
    | zero =>
      intro σ x1 x2 x4 hF
      exact hF.elim
    | succ n197 ih197 =>
      intro σ x1 x2 x4 hF H locs ls hP hS hl
      unfold mp_X11_readClass_197 at hF
      refine lv_iload hx hb dX11_readClass_197 (lv_at hl 3 rfl) ?_
      refine lv_bipush (v := 16) hx hb dX11_readClass_199 (by decide) ?_
      refine lv_icmp_ge (tgt := 255) hx hb dX11_readClass_201 (by decide) (fun h23 => ?_) (fun h23 => ?_)
      · replace hF := hF.1 h23
        refine lv_aload_n hx hb dX11_readClass_255 rfl (lv_at hl 0 rfl) ?_
        refine lv_iconst (v := 0) hx hb dX11_readClass_256 (by decide) ?_
        refine lv_bipush (v := 16) hx hb dX11_readClass_257 (by decide) ?_
        refine sm_vi (As := [.int 0, .int 16]) (rest := []) hP hK hD hE hS hA ⟨hx, hb, hml, hown, hts⟩ hl.1 (c_X11_over l D H.size t0 σ α 0 16 _ hF) (cwV 2 hts wg_X11_readClass_X11_over_94 rfl rfl rfl (by decide +kernel) ⟨Nat.le_of_ble_eq_true rfl, Nat.le_of_ble_eq_true rfl⟩) (va_recv hK hP (ci := 11) (q0 := 0) rfl (sm_gX11 σ α)) rfl rfl (Nat.le_of_ble_eq_true rfl) dX11_readClass_259 ⟨Nat.zero_le _, Nat.zero_le _⟩ (fun r25 σ24 H locs hF hP hS => ?_)
        refine lv_if_ne (tgt := 267) hx hb dX11_readClass_262 (by decide) (fun h26 => ?_) (fun h26 => ?_)
        · replace hF := hF.1 h26
          refine lv_aload_n hx hb dX11_readClass_267 rfl (lv_at hl 0 rfl) ?_
          refine sm_vi (As := []) (rest := []) hP hK hD hE hS hA ⟨hx, hb, hml, hown, hts⟩ hl.1 (c_X11_last l D H.size t0 σ24 α _ hF) (cwV 0 hts wg_X11_readClass_X11_last_98 rfl rfl rfl (by decide +kernel) ⟨Nat.le_of_ble_eq_true rfl, Nat.le_of_ble_eq_true rfl⟩) (va_recv hK hP (ci := 11) (q0 := 0) rfl (sm_gX11 σ24 α)) rfl rfl (Nat.le_of_ble_eq_true rfl) dX11_readClass_268 ⟨Nat.zero_le _, Nat.zero_le _⟩ (fun r28 σ27 H locs hF hP hS => ?_)
          refine lv_istore (lv' := [(4, .int r28), (0, .ref (α.1 0)), (1, .int x1), (2, .int x2)]) hx hb dX11_readClass_271 hl (by decide) rfl (fun ls hl => ?_)
          refine lv_iconst (v := 0) hx hb dX11_readClass_273 (by decide) ?_
          refine lv_istore (lv' := [(5, .int 0), (4, .int r28), (0, .ref (α.1 0)), (1, .int x1), (2, .int x2)]) hx hb dX11_readClass_274 hl (by decide) rfl (fun ls hl => ?_)
          refine lv_iconst (v := 0) hx hb dX11_readClass_276 (by decide) ?_
          refine lv_istore (lv' := [(6, .int 0), (5, .int 0), (4, .int r28), (0, .ref (α.1 0)), (1, .int x1), (2, .int x2)]) hx hb dX11_readClass_277 hl (by decide) rfl (fun ls hl => ?_)
          obtain ⟨n279, hF⟩ := hF
          exact B279 n279 σ27 x1 r28 0 0 hF H locs ls hP hS (lv_sub hl [3, 4, 2, 1, 0] rfl)
        · replace hF := hF.2 h26
          refine lv_iconst (v := 0) hx hb dX11_readClass_265 (by decide) ?_
          exact W.zret (v := 0) hx hb hr sm_z0.1 (fun t ht hW => ⟨⟨0, σ24, rfl, hF, (by unfold sm_B; rw [ht]; exact hP)⟩, hS.F ht⟩) hS.2.2 dX11_readClass_266
      · replace hF := hF.2 h23
        refine lv_aload_n hx hb dX11_readClass_204 rfl (lv_at hl 0 rfl) ?_
        refine va_get (D := D) (ci := 11) (v := .ref (α.1 8)) (C := RX11) (T := TX11) (N := 28) hx hb hts in_X11 hown hK hP 0 (sm_gX11 σ α) rfl 12 (by decide) k_0 (fun _ h9 => h9) rfl dX11_readClass_205 ?_
        refine lv_bipush (v := 16) hx hb dX11_readClass_208 (by decide) ?_
        refine lv_iload_n hx hb dX11_readClass_210 rfl (lv_at hl 1 rfl) ?_
        refine lv_imul hx hb dX11_readClass_211 ?_
        refine lv_iload hx hb dX11_readClass_212 (lv_at hl 3 rfl) ?_
        refine lv_iadd hx hb dX11_readClass_214 ?_
        refine lv_iload_n hx hb dX11_readClass_215 rfl (lv_at hl 2 rfl) ?_
        refine lv_if_ge (tgt := 223) hx hb dX11_readClass_216 (by decide) (fun h29 => ?_) (fun h29 => ?_)
        · replace hF := hF.1 h29
          refine lv_aload_n hx hb dX11_readClass_223 rfl (lv_at hl 0 rfl) ?_
          refine va_get (D := D) (ci := 11) (v := .ref (α.1 8)) (C := RX11) (T := TX11) (N := 28) hx hb hts in_X11 hown hK hP 0 (sm_gX11 σ α) rfl 12 (by decide) k_0 (fun _ h9 => h9) rfl dX11_readClass_224 ?_
          refine lv_bipush (v := 16) hx hb dX11_readClass_227 (by decide) ?_
          refine lv_iload_n hx hb dX11_readClass_229 rfl (lv_at hl 2 rfl) ?_
          refine lv_imul hx hb dX11_readClass_230 ?_
          refine lv_iload hx hb dX11_readClass_231 (lv_at hl 3 rfl) ?_
          refine lv_iadd hx hb dX11_readClass_233 ?_
          obtain ⟨h30, hF⟩ := hF
          refine va_iald (n := (σ.2.2.1 8)) (f := (σ.2.2.2.1 8)) hx hb hK hP 8 6 (sm_aM8 σ α) (sm_yM8 α) h30 dX11_readClass_234 ?_
          exact B235 (mp_X11_readClass_197 K n197) ih197 σ x1 x2 x4 ((16 * x1) + x4) ((σ.2.2.2.1 8) ((16 * x2) + x4).toNatClampNeg) hF H locs ls hP hS (lv_sub hl [0, 1, 2, 3] rfl)
        · replace hF := hF.2 h29
          refine lv_iconst (v := -1) hx hb dX11_readClass_219 (by decide) ?_
          refine lv_goto (tgt := 235) hx hb dX11_readClass_220 (by decide) ?_
          exact B235 (mp_X11_readClass_197 K n197) ih197 σ x1 x2 x4 ((16 * x1) + x4) (-1) hF H locs ls hP hS (lv_sub hl [0, 1, 2, 3] rfl)
  have B151 : ∀ (n : Nat) (σ : sm_S) (x1 : Int32) (x2 : Int32) (x4 : Int32), mp_X11_readClass_151 K n σ x1 x2 x4 → sm_J p l e (headSpec wp_X11_readClass { frames := 2, cells := 0, slots := 0, locals := 44 }).room s m ([.ref (α.1 0), .int p1] : List Value).toArray below meth c (MQ below (va_Qi K (sm_B sm_wM D α) A) ([.ref (α.1 0), .int p1] : List Value).toArray s 0 0 A) D A 8 (sm_wM σ α) 151 [(0, .ref (α.1 0)), (1, .int x1), (2, .int x2), (4, .int x4)] [] := by
    intro n151
    induction n151 with
    | zero =>
      intro σ x1 x2 x4 hF
      exact hF.elim
    | succ n151 ih151 =>
      intro σ x1 x2 x4 hF H locs ls hP hS hl
      unfold mp_X11_readClass_151 at hF
      refine lv_iload hx hb dX11_readClass_151 (lv_at hl 3 rfl) ?_
      refine lv_aload_n hx hb dX11_readClass_153 rfl (lv_at hl 0 rfl) ?_
      refine va_get (D := D) (ci := 11) (v := .ref (α.1 6)) (C := RX11) (T := TX11) (N := 28) hx hb hts in_X11 hown hK hP 0 (sm_gX11 σ α) rfl 10 (by decide) k_3 (fun _ h9 => h9) rfl dX11_readClass_154 ?_
      refine lv_iload_n hx hb dX11_readClass_157 rfl (lv_at hl 1 rfl) ?_
      obtain ⟨h31, hF⟩ := hF
      refine va_iald (n := (σ.2.2.1 6)) (f := (σ.2.2.2.1 6)) hx hb hK hP 6 4 (sm_aM6 σ α) (sm_yM6 α) h31 dX11_readClass_158 ?_
      refine lv_icmp_ge (tgt := 194) hx hb dX11_readClass_159 (by decide) (fun h32 => ?_) (fun h32 => ?_)
      · replace hF := hF.1 h32
        refine lv_iconst (v := 0) hx hb dX11_readClass_194 (by decide) ?_
        refine lv_istore (lv' := [(4, .int 0), (0, .ref (α.1 0)), (1, .int x1), (2, .int x2)]) hx hb dX11_readClass_195 hl (by decide) rfl (fun ls hl => ?_)
        obtain ⟨n197, hF⟩ := hF
        exact B197 n197 σ x1 x2 0 hF H locs ls hP hS (lv_sub hl [1, 2, 3, 0] rfl)
      · replace hF := hF.2 h32
        refine lv_aload_n hx hb dX11_readClass_162 rfl (lv_at hl 0 rfl) ?_
        refine lv_iconst (v := 0) hx hb dX11_readClass_163 (by decide) ?_
        refine sm_vi (As := [.int 0]) (rest := []) hP hK hD hE hS hA ⟨hx, hb, hml, hown, hts⟩ hl.1 (c_X11_overType l D H.size t0 σ α 0 _ hF) (cwV 1 hts wg_X11_readClass_X11_overType_101 rfl rfl rfl (by decide +kernel) ⟨Nat.le_of_ble_eq_true rfl, Nat.le_of_ble_eq_true rfl⟩) (va_recv hK hP (ci := 11) (q0 := 0) rfl (sm_gX11 σ α)) rfl rfl (Nat.le_of_ble_eq_true rfl) dX11_readClass_164 ⟨Nat.zero_le _, Nat.zero_le _⟩ (fun r34 σ33 H locs hF hP hS => ?_)
        refine lv_if_ne (tgt := 172) hx hb dX11_readClass_167 (by decide) (fun h35 => ?_) (fun h35 => ?_)
        · replace hF := hF.1 h35
          refine lv_aload_n hx hb dX11_readClass_172 rfl (lv_at hl 0 rfl) ?_
          refine va_get (D := D) (ci := 11) (v := .ref (α.1 7)) (C := RX11) (T := TX11) (N := 28) hx hb hts in_X11 hown hK hP 0 (sm_gX11 σ33 α) rfl 11 (by decide) k_4 (fun _ h9 => h9) rfl dX11_readClass_173 ?_
          refine lv_bipush (v := 15) hx hb dX11_readClass_176 (by decide) ?_
          refine lv_iload_n hx hb dX11_readClass_178 rfl (lv_at hl 1 rfl) ?_
          refine lv_imul hx hb dX11_readClass_179 ?_
          refine lv_iload hx hb dX11_readClass_180 (lv_at hl 3 rfl) ?_
          refine lv_iadd hx hb dX11_readClass_182 ?_
          refine lv_aload_n hx hb dX11_readClass_183 rfl (lv_at hl 0 rfl) ?_
          refine sm_vi (As := []) (rest := [.int ((15 * x1) + x4), .ref (α.1 7)]) hP hK hD hE hS hA ⟨hx, hb, hml, hown, hts⟩ hl.1 (c_X11_last l D H.size t0 σ33 α _ hF) (cwV 0 hts wg_X11_readClass_X11_last_98 rfl rfl rfl (by decide +kernel) ⟨Nat.le_of_ble_eq_true rfl, Nat.le_of_ble_eq_true rfl⟩) (va_recv hK hP (ci := 11) (q0 := 0) rfl (sm_gX11 σ33 α)) rfl rfl (Nat.le_of_ble_eq_true rfl) dX11_readClass_184 ⟨Nat.zero_le _, Nat.zero_le _⟩ (fun r37 σ36 H locs hF hP hS => ?_)
          obtain ⟨h38, hF⟩ := hF
          refine va_iast (n := (σ36.2.2.1 7)) (f := (σ36.2.2.2.1 7)) (x := r37) hx hb hK hP (hD.to (sm_wM_m _ _)) hS 7 5 (sm_aM7 σ36 α) (sm_yM7 α) h38 dX11_readClass_187 (fun H locs hP _ hS => ?_)
          rw [sm_rM7] at hP
          obtain ⟨σ39, eσ39⟩ : ∃ x : sm_S, x = sm_r σ36 7 (upd (σ36.2.2.2.1 7) ((15 * x1) + x4).toNatClampNeg r37) := ⟨_, rfl⟩
          replace hF := hF σ39 eσ39
          rw [← eσ39] at hP
          obtain ⟨v40, ev40⟩ : ∃ y : Int32, y = x4 + 1 := ⟨_, rfl⟩
          replace hF := hF v40 ev40
          refine lv_iinc (v := v40) (lv' := [(4, .int v40), (0, .ref (α.1 0)), (1, .int x1), (2, .int x2)]) hx hb dX11_readClass_188 hl (k := 3) rfl (by rw [ev40]; rfl) (by decide) rfl (fun ls hl => ?_)
          refine lv_goto (tgt := 151) hx hb dX11_readClass_191 (by decide) ?_
          exact ih151 σ39 x1 x2 v40 hF H locs ls hP hS (lv_sub hl [1, 2, 3, 0] rfl)
        · replace hF := hF.2 h35
          refine lv_iconst (v := 0) hx hb dX11_readClass_170 (by decide) ?_
          exact W.zret (v := 0) hx hb hr sm_z0.1 (fun t ht hW => ⟨⟨0, σ33, rfl, hF, (by unfold sm_B; rw [ht]; exact hP)⟩, hS.F ht⟩) hS.2.2 dX11_readClass_171
  have B86 : ∀ (n : Nat) (σ : sm_S) (x1 : Int32) (x2 : Int32) (x3 : Int32) (x4 : Int32), mp_X11_readClass_86 K n σ x1 x2 x3 x4 → sm_J p l e (headSpec wp_X11_readClass { frames := 2, cells := 0, slots := 0, locals := 44 }).room s m ([.ref (α.1 0), .int p1] : List Value).toArray below meth c (MQ below (va_Qi K (sm_B sm_wM D α) A) ([.ref (α.1 0), .int p1] : List Value).toArray s 0 0 A) D A 8 (sm_wM σ α) 86 [(0, .ref (α.1 0)), (1, .int x1), (2, .int x2), (3, .int x3), (4, .int x4)] [] := by
    intro n86
    induction n86 with
    | zero =>
      intro σ x1 x2 x3 x4 hF
      exact hF.elim
    | succ n86 ih86 =>
      intro σ x1 x2 x3 x4 hF H locs ls hP hS hl
      unfold mp_X11_readClass_86 at hF
      refine lv_iload hx hb dX11_readClass_86 (lv_at hl 4 rfl) ?_
      refine lv_iload_n hx hb dX11_readClass_88 rfl (lv_at hl 3 rfl) ?_
      refine lv_icmp_ge (tgt := 122) hx hb dX11_readClass_89 (by decide) (fun h41 => ?_) (fun h41 => ?_)
      · replace hF := hF.1 h41
        refine lv_aload_n hx hb dX11_readClass_122 rfl (lv_at hl 0 rfl) ?_
        refine lv_iconst (v := 0) hx hb dX11_readClass_123 (by decide) ?_
        refine lv_bipush (v := 15) hx hb dX11_readClass_124 (by decide) ?_
        refine lv_iload_n hx hb dX11_readClass_126 rfl (lv_at hl 3 rfl) ?_
        refine lv_isub hx hb dX11_readClass_127 ?_
        refine sm_vi (As := [.int 0, .int (15 - x3)]) (rest := []) hP hK hD hE hS hA ⟨hx, hb, hml, hown, hts⟩ hl.1 (c_X11_over l D H.size t0 σ α 0 (15 - x3) _ hF) (cwV 2 hts wg_X11_readClass_X11_over_94 rfl rfl rfl (by decide +kernel) ⟨Nat.le_of_ble_eq_true rfl, Nat.le_of_ble_eq_true rfl⟩) (va_recv hK hP (ci := 11) (q0 := 0) rfl (sm_gX11 σ α)) rfl rfl (Nat.le_of_ble_eq_true rfl) dX11_readClass_128 ⟨Nat.zero_le _, Nat.zero_le _⟩ (fun r43 σ42 H locs hF hP hS => ?_)
        refine lv_if_ne (tgt := 136) hx hb dX11_readClass_131 (by decide) (fun h44 => ?_) (fun h44 => ?_)
        · replace hF := hF.1 h44
          refine lv_aload_n hx hb dX11_readClass_136 rfl (lv_at hl 0 rfl) ?_
          refine va_get (D := D) (ci := 11) (v := .ref (α.1 6)) (C := RX11) (T := TX11) (N := 28) hx hb hts in_X11 hown hK hP 0 (sm_gX11 σ42 α) rfl 10 (by decide) k_3 (fun _ h9 => h9) rfl dX11_readClass_137 ?_
          refine lv_iload_n hx hb dX11_readClass_140 rfl (lv_at hl 1 rfl) ?_
          refine lv_iload_n hx hb dX11_readClass_141 rfl (lv_at hl 3 rfl) ?_
          refine lv_aload_n hx hb dX11_readClass_142 rfl (lv_at hl 0 rfl) ?_
          refine sm_vi (As := []) (rest := [.int x3, .int x1, .ref (α.1 6)]) hP hK hD hE hS hA ⟨hx, hb, hml, hown, hts⟩ hl.1 (c_X11_last l D H.size t0 σ42 α _ hF) (cwV 0 hts wg_X11_readClass_X11_last_98 rfl rfl rfl (by decide +kernel) ⟨Nat.le_of_ble_eq_true rfl, Nat.le_of_ble_eq_true rfl⟩) (va_recv hK hP (ci := 11) (q0 := 0) rfl (sm_gX11 σ42 α)) rfl rfl (Nat.le_of_ble_eq_true rfl) dX11_readClass_143 ⟨Nat.zero_le _, Nat.zero_le _⟩ (fun r46 σ45 H locs hF hP hS => ?_)
          refine lv_iadd hx hb dX11_readClass_146 ?_
          obtain ⟨h47, hF⟩ := hF
          refine va_iast (n := (σ45.2.2.1 6)) (f := (σ45.2.2.2.1 6)) (x := (x3 + r46)) hx hb hK hP (hD.to (sm_wM_m _ _)) hS 6 4 (sm_aM6 σ45 α) (sm_yM6 α) h47 dX11_readClass_147 (fun H locs hP _ hS => ?_)
          rw [sm_rM6] at hP
          obtain ⟨σ48, eσ48⟩ : ∃ x : sm_S, x = sm_r σ45 6 (upd (σ45.2.2.2.1 6) x1.toNatClampNeg (x3 + r46)) := ⟨_, rfl⟩
          replace hF := hF σ48 eσ48
          rw [← eσ48] at hP
          refine lv_iload_n hx hb dX11_readClass_148 rfl (lv_at hl 3 rfl) ?_
          refine lv_istore (lv' := [(4, .int x3), (0, .ref (α.1 0)), (1, .int x1), (2, .int x2), (3, .int x3)]) hx hb dX11_readClass_149 hl (by decide) rfl (fun ls hl => ?_)
          obtain ⟨n151, hF⟩ := hF
          exact B151 n151 σ48 x1 x2 x3 hF H locs ls hP hS (lv_sub hl [1, 2, 3, 0] rfl)
        · replace hF := hF.2 h44
          refine lv_iconst (v := 0) hx hb dX11_readClass_134 (by decide) ?_
          exact W.zret (v := 0) hx hb hr sm_z0.1 (fun t ht hW => ⟨⟨0, σ42, rfl, hF, (by unfold sm_B; rw [ht]; exact hP)⟩, hS.F ht⟩) hS.2.2 dX11_readClass_135
      · replace hF := hF.2 h41
        refine lv_aload_n hx hb dX11_readClass_92 rfl (lv_at hl 0 rfl) ?_
        refine va_get (D := D) (ci := 11) (v := .ref (α.1 7)) (C := RX11) (T := TX11) (N := 28) hx hb hts in_X11 hown hK hP 0 (sm_gX11 σ α) rfl 11 (by decide) k_4 (fun _ h9 => h9) rfl dX11_readClass_93 ?_
        refine lv_bipush (v := 15) hx hb dX11_readClass_96 (by decide) ?_
        refine lv_iload_n hx hb dX11_readClass_98 rfl (lv_at hl 1 rfl) ?_
        refine lv_imul hx hb dX11_readClass_99 ?_
        refine lv_iload hx hb dX11_readClass_100 (lv_at hl 4 rfl) ?_
        refine lv_iadd hx hb dX11_readClass_102 ?_
        refine lv_aload_n hx hb dX11_readClass_103 rfl (lv_at hl 0 rfl) ?_
        refine va_get (D := D) (ci := 11) (v := .ref (α.1 7)) (C := RX11) (T := TX11) (N := 28) hx hb hts in_X11 hown hK hP 0 (sm_gX11 σ α) rfl 11 (by decide) k_4 (fun _ h9 => h9) rfl dX11_readClass_104 ?_
        refine lv_bipush (v := 15) hx hb dX11_readClass_107 (by decide) ?_
        refine lv_iload_n hx hb dX11_readClass_109 rfl (lv_at hl 2 rfl) ?_
        refine lv_imul hx hb dX11_readClass_110 ?_
        refine lv_iload hx hb dX11_readClass_111 (lv_at hl 4 rfl) ?_
        refine lv_iadd hx hb dX11_readClass_113 ?_
        obtain ⟨h49, hF⟩ := hF
        refine va_iald (n := (σ.2.2.1 7)) (f := (σ.2.2.2.1 7)) hx hb hK hP 7 5 (sm_aM7 σ α) (sm_yM7 α) h49 dX11_readClass_114 ?_
        obtain ⟨h50, hF⟩ := hF
        refine va_iast (n := (σ.2.2.1 7)) (f := (σ.2.2.2.1 7)) (x := ((σ.2.2.2.1 7) ((15 * x2) + x4).toNatClampNeg)) hx hb hK hP (hD.to (sm_wM_m _ _)) hS 7 5 (sm_aM7 σ α) (sm_yM7 α) h50 dX11_readClass_115 (fun H locs hP _ hS => ?_)
        rw [sm_rM7] at hP
        obtain ⟨σ51, eσ51⟩ : ∃ x : sm_S, x = sm_r σ 7 (upd (σ.2.2.2.1 7) ((15 * x1) + x4).toNatClampNeg ((σ.2.2.2.1 7) ((15 * x2) + x4).toNatClampNeg)) := ⟨_, rfl⟩
        replace hF := hF σ51 eσ51
        rw [← eσ51] at hP
        obtain ⟨v52, ev52⟩ : ∃ y : Int32, y = x4 + 1 := ⟨_, rfl⟩
        replace hF := hF v52 ev52
        refine lv_iinc (v := v52) (lv' := [(4, .int v52), (0, .ref (α.1 0)), (1, .int x1), (2, .int x2), (3, .int x3)]) hx hb dX11_readClass_116 hl (k := 4) rfl (by rw [ev52]; rfl) (by decide) rfl (fun ls hl => ?_)
        refine lv_goto (tgt := 86) hx hb dX11_readClass_119 (by decide) ?_
        exact ih86 σ51 x1 x2 x3 v52 hF H locs ls hP hS (lv_sub hl [1, 2, 3, 4, 0] rfl)
  have B82 : ∀ (σ : sm_S) (x1 : Int32) (x2 : Int32) (y0 : Int32), mp_X11_readClass_82 K σ x1 x2 y0 → sm_J p l e (headSpec wp_X11_readClass { frames := 2, cells := 0, slots := 0, locals := 44 }).room s m ([.ref (α.1 0), .int p1] : List Value).toArray below meth c (MQ below (va_Qi K (sm_B sm_wM D α) A) ([.ref (α.1 0), .int p1] : List Value).toArray s 0 0 A) D A 8 (sm_wM σ α) 82 [(0, .ref (α.1 0)), (1, .int x1), (2, .int x2)] [.int y0] := by
    intro σ x1 x2 y0 hF H locs ls hP hS hl
    unfold mp_X11_readClass_82 at hF
    refine lv_istore_n (lv' := [(3, .int y0), (0, .ref (α.1 0)), (1, .int x1), (2, .int x2)]) hx hb dX11_readClass_82 rfl hl (by decide) rfl (fun ls hl => ?_)
    refine lv_iconst (v := 0) hx hb dX11_readClass_83 (by decide) ?_
    refine lv_istore (lv' := [(4, .int 0), (3, .int y0), (0, .ref (α.1 0)), (1, .int x1), (2, .int x2)]) hx hb dX11_readClass_84 hl (by decide) rfl (fun ls hl => ?_)
    obtain ⟨n86, hF⟩ := hF
    exact B86 n86 σ x1 x2 y0 0 hF H locs ls hP hS (lv_sub hl [2, 3, 4, 1, 0] rfl)
  have B50 : ∀ (σ : sm_S) (x1 : Int32) (y1 : Int32) (y2 : Int32), mp_X11_readClass_50 K σ x1 y1 y2 → sm_J p l e (headSpec wp_X11_readClass { frames := 2, cells := 0, slots := 0, locals := 44 }).room s m ([.ref (α.1 0), .int p1] : List Value).toArray below meth c (MQ below (va_Qi K (sm_B sm_wM D α) A) ([.ref (α.1 0), .int p1] : List Value).toArray s 0 0 A) D A 8 (sm_wM σ α) 50 [(0, .ref (α.1 0)), (1, .int x1)] [.int y2, .int y1, .ref (α.1 5)] := by
    intro σ x1 y1 y2 hF H locs ls hP hS hl
    unfold mp_X11_readClass_50 at hF
    obtain ⟨h53, hF⟩ := hF
    refine va_iast (n := (σ.2.2.1 5)) (f := (σ.2.2.2.1 5)) (x := y2) hx hb hK hP (hD.to (sm_wM_m _ _)) hS 5 3 (sm_aM5 σ α) (sm_yM5 α) h53 dX11_readClass_50 (fun H locs hP _ hS => ?_)
    rw [sm_rM5] at hP
    obtain ⟨σ54, eσ54⟩ : ∃ x : sm_S, x = sm_r σ 5 (upd (σ.2.2.2.1 5) y1.toNatClampNeg y2) := ⟨_, rfl⟩
    replace hF := hF σ54 eσ54
    rw [← eσ54] at hP
    refine lv_aload_n hx hb dX11_readClass_51 rfl (lv_at hl 0 rfl) ?_
    refine lv_dup hx hb dX11_readClass_52 rfl ?_
    refine va_get (D := D) (ci := 11) (v := .int (σ54.1 2)) (C := RX11) (T := TX11) (N := 28) hx hb hts in_X11 hown hK hP 0 (sm_gX11 σ54 α) rfl 5 (by decide) k_2 (fun _ h9 => h9) rfl dX11_readClass_53 ?_
    refine lv_iconst (v := 1) hx hb dX11_readClass_56 (by decide) ?_
    refine lv_iadd hx hb dX11_readClass_57 ?_
    refine va_put (D := D) (ci := 11) (v := .int ((σ54.1 2) + 1)) (ty := .int) (C := RX11) (T := TX11) (N := 28) hx hb hts in_X11 tyX11 tyX11_ok nmX11 hown hK hP (hD.to (sm_wM_m _ _)) hS 0 (sm_gX11 σ54 α) rfl 5 (by decide) k_2 (fun _ h9 => h9) rfl (by decide +kernel) rfl rfl (Nat.le_of_ble_eq_true rfl) dX11_readClass_58 (fun H locs hP _ hS => ?_)
    rw [sm_iM2] at hP
    obtain ⟨σ55, eσ55⟩ : ∃ x : sm_S, x = sm_i σ54 2 ((σ54.1 2) + 1) := ⟨_, rfl⟩
    replace hF := hF σ55 eσ55
    rw [← eσ55] at hP
    refine lv_aload_n hx hb dX11_readClass_61 rfl (lv_at hl 0 rfl) ?_
    refine va_get (D := D) (ci := 11) (v := .ref (α.1 5)) (C := RX11) (T := TX11) (N := 28) hx hb hts in_X11 hown hK hP 0 (sm_gX11 σ55 α) rfl 9 (by decide) k_5 (fun _ h9 => h9) rfl dX11_readClass_62 ?_
    refine lv_iload_n hx hb dX11_readClass_65 rfl (lv_at hl 1 rfl) ?_
    obtain ⟨h56, hF⟩ := hF
    refine va_iald (n := (σ55.2.2.1 5)) (f := (σ55.2.2.2.1 5)) hx hb hK hP 5 3 (sm_aM5 σ55 α) (sm_yM5 α) h56 dX11_readClass_66 ?_
    refine lv_topi (fun v57 ev57 => ?_)
    replace hF := hF v57 ev57
    refine lv_istore_n (lv' := [(2, .int v57), (0, .ref (α.1 0)), (1, .int x1)]) hx hb dX11_readClass_67 rfl hl (by decide) rfl (fun ls hl => ?_)
    refine lv_iload_n hx hb dX11_readClass_68 rfl (lv_at hl 0 rfl) ?_
    refine lv_if_ge (tgt := 76) hx hb dX11_readClass_69 (by decide) (fun h58 => ?_) (fun h58 => ?_)
    · replace hF := hF.1 h58
      refine lv_aload_n hx hb dX11_readClass_76 rfl (lv_at hl 1 rfl) ?_
      refine va_get (D := D) (ci := 11) (v := .ref (α.1 6)) (C := RX11) (T := TX11) (N := 28) hx hb hts in_X11 hown hK hP 0 (sm_gX11 σ55 α) rfl 10 (by decide) k_3 (fun _ h9 => h9) rfl dX11_readClass_77 ?_
      refine lv_iload_n hx hb dX11_readClass_80 rfl (lv_at hl 0 rfl) ?_
      obtain ⟨h59, hF⟩ := hF
      refine va_iald (n := (σ55.2.2.1 6)) (f := (σ55.2.2.2.1 6)) hx hb hK hP 6 4 (sm_aM6 σ55 α) (sm_yM6 α) h59 dX11_readClass_81 ?_
      exact B82 σ55 x1 v57 ((σ55.2.2.2.1 6) v57.toNatClampNeg) hF H locs ls hP hS (lv_sub hl [1, 2, 0] rfl)
    · replace hF := hF.2 h58
      refine lv_iconst (v := 0) hx hb dX11_readClass_72 (by decide) ?_
      refine lv_goto (tgt := 82) hx hb dX11_readClass_73 (by decide) ?_
      exact B82 σ55 x1 v57 0 hF H locs ls hP hS (lv_sub hl [1, 2, 0] rfl)
  have B27 : ∀ (σ : sm_S) (x1 : Int32), mp_X11_readClass_27 K σ x1 → sm_J p l e (headSpec wp_X11_readClass { frames := 2, cells := 0, slots := 0, locals := 44 }).room s m ([.ref (α.1 0), .int p1] : List Value).toArray below meth c (MQ below (va_Qi K (sm_B sm_wM D α) A) ([.ref (α.1 0), .int p1] : List Value).toArray s 0 0 A) D A 8 (sm_wM σ α) 27 [(0, .ref (α.1 0)), (1, .int x1)] [] := by
    intro σ x1 hF H locs ls hP hS hl
    unfold mp_X11_readClass_27 at hF
    refine lv_aload_n hx hb dX11_readClass_27 rfl (lv_at hl 0 rfl) ?_
    refine va_get (D := D) (ci := 11) (v := .ref (α.1 5)) (C := RX11) (T := TX11) (N := 28) hx hb hts in_X11 hown hK hP 0 (sm_gX11 σ α) rfl 9 (by decide) k_5 (fun _ h9 => h9) rfl dX11_readClass_28 ?_
    refine lv_iload_n hx hb dX11_readClass_31 rfl (lv_at hl 1 rfl) ?_
    refine lv_aload_n hx hb dX11_readClass_32 rfl (lv_at hl 0 rfl) ?_
    refine sm_vi (As := []) (rest := [.int x1, .ref (α.1 5)]) hP hK hD hE hS hA ⟨hx, hb, hml, hown, hts⟩ hl.1 (c_X11_here l D H.size t0 σ α _ hF) (cwV 0 hts wg_X11_readClass_X11_here_83 rfl rfl rfl (by decide +kernel) ⟨Nat.le_of_ble_eq_true rfl, Nat.le_of_ble_eq_true rfl⟩) (va_recv hK hP (ci := 11) (q0 := 0) rfl (sm_gX11 σ α)) rfl rfl (Nat.le_of_ble_eq_true rfl) dX11_readClass_33 ⟨Nat.zero_le _, Nat.zero_le _⟩ (fun r61 σ60 H locs hF hP hS => ?_)
    refine lv_sipush (v := 255) hx hb dX11_readClass_36 (by decide) ?_
    refine lv_icmp_ne (tgt := 46) hx hb dX11_readClass_39 (by decide) (fun h62 => ?_) (fun h62 => ?_)
    · replace hF := hF.1 h62
      refine lv_aload_n hx hb dX11_readClass_46 rfl (lv_at hl 0 rfl) ?_
      refine sm_vi (As := []) (rest := [.int x1, .ref (α.1 5)]) hP hK hD hE hS hA ⟨hx, hb, hml, hown, hts⟩ hl.1 (c_X11_here l D H.size t0 σ60 α _ hF) (cwV 0 hts wg_X11_readClass_X11_here_83 rfl rfl rfl (by decide +kernel) ⟨Nat.le_of_ble_eq_true rfl, Nat.le_of_ble_eq_true rfl⟩) (va_recv hK hP (ci := 11) (q0 := 0) rfl (sm_gX11 σ60 α)) rfl rfl (Nat.le_of_ble_eq_true rfl) dX11_readClass_47 ⟨Nat.zero_le _, Nat.zero_le _⟩ (fun r64 σ63 H locs hF hP hS => ?_)
      exact B50 σ63 x1 x1 r64 hF H locs ls hP hS (lv_sub hl [0, 1] rfl)
    · replace hF := hF.2 h62
      refine lv_iconst (v := -1) hx hb dX11_readClass_42 (by decide) ?_
      refine lv_goto (tgt := 50) hx hb dX11_readClass_43 (by decide) ?_
      exact B50 σ60 x1 x1 (-1) hF H locs ls hP hS (lv_sub hl [0, 1] rfl)
  unfold mp_X11_readClass at hF
  revert hP hS
  generalize hLo : ([] : List Loc) = locs
  suffices h9 : ∀ (H : Heap) (locs : List Loc), va_P D vwCl (sm_wM σ α) H → va_S A s.heap H locs → W p l e (headSpec wp_X11_readClass { frames := 2, cells := 0, slots := 0, locals := 44 }).room s m ([.ref (α.1 0), .int p1] : List Value).toArray below meth c H locs 0 0 (MQ below (va_Qi K (sm_B sm_wM D α) A) ([.ref (α.1 0), .int p1] : List Value).toArray s 0 0 A) (F0 m 0 ls []) from fun hP hS => h9 s.heap locs hP hS
  intro H locs hP hS
  refine lv_aload_n hx hb dX11_readClass_0 rfl (lv_at hl 0 rfl) ?_
  refine sm_vi (As := []) (rest := []) hP hK hD hE hS hA ⟨hx, hb, hml, hown, hts⟩ hl.1 (c_X11_here l D H.size t0 σ α _ hF) (cwV 0 hts wg_X11_readClass_X11_here_83 rfl rfl rfl (by decide +kernel) ⟨Nat.le_of_ble_eq_true rfl, Nat.le_of_ble_eq_true rfl⟩) (va_recv hK hP (ci := 11) (q0 := 0) rfl (sm_gX11 σ α)) rfl rfl (Nat.le_of_ble_eq_true rfl) dX11_readClass_1 ⟨Nat.zero_le _, Nat.zero_le _⟩ (fun r66 σ65 H locs hF hP hS => ?_)
  refine lv_sipush (v := 255) hx hb dX11_readClass_4 (by decide) ?_
  refine lv_icmp_eq (tgt := 27) hx hb dX11_readClass_7 (by decide) (fun h67 => ?_) (fun h67 => ?_)
  · replace hF := hF.1 h67
    exact B27 σ65 p1 hF H locs ls hP hS (lv_sub hl [0, 1] rfl)
  · replace hF := hF.2 h67
    refine lv_aload_n hx hb dX11_readClass_10 rfl (lv_at hl 0 rfl) ?_
    refine sm_vi (As := []) (rest := []) hP hK hD hE hS hA ⟨hx, hb, hml, hown, hts⟩ hl.1 (c_X11_here l D H.size t0 σ65 α _ hF) (cwV 0 hts wg_X11_readClass_X11_here_83 rfl rfl rfl (by decide +kernel) ⟨Nat.le_of_ble_eq_true rfl, Nat.le_of_ble_eq_true rfl⟩) (va_recv hK hP (ci := 11) (q0 := 0) rfl (sm_gX11 σ65 α)) rfl rfl (Nat.le_of_ble_eq_true rfl) dX11_readClass_11 ⟨Nat.zero_le _, Nat.zero_le _⟩ (fun r69 σ68 H locs hF hP hS => ?_)
    refine lv_iload_n hx hb dX11_readClass_14 rfl (lv_at hl 1 rfl) ?_
    refine lv_icmp_lt (tgt := 27) hx hb dX11_readClass_15 (by decide) (fun h70 => ?_) (fun h70 => ?_)
    · replace hF := hF.1 h70
      exact B27 σ68 p1 hF H locs ls hP hS (lv_sub hl [0, 1] rfl)
    · replace hF := hF.2 h70
      refine lv_aload_n hx hb dX11_readClass_18 rfl (lv_at hl 0 rfl) ?_
      refine lv_aload_n hx hb dX11_readClass_19 rfl (lv_at hl 0 rfl) ?_
      refine va_get (D := D) (ci := 11) (v := .int (σ68.1 2)) (C := RX11) (T := TX11) (N := 28) hx hb hts in_X11 hown hK hP 0 (sm_gX11 σ68 α) rfl 5 (by decide) k_2 (fun _ h9 => h9) rfl dX11_readClass_20 ?_
      refine sm_vi (As := [.int (σ68.1 2)]) (rest := []) hP hK hD hE hS hA ⟨hx, hb, hml, hown, hts⟩ hl.1 (c_X11_bad l D H.size t0 σ68 α (σ68.1 2) _ hF) (cwV 1 hts wg_X11_readClass_X11_bad_87 rfl rfl rfl (by decide +kernel) ⟨Nat.le_of_ble_eq_true rfl, Nat.le_of_ble_eq_true rfl⟩) (va_recv hK hP (ci := 11) (q0 := 0) rfl (sm_gX11 σ68 α)) rfl rfl (Nat.le_of_ble_eq_true rfl) dX11_readClass_23 ⟨Nat.zero_le _, Nat.zero_le _⟩ (fun r72 σ71 H locs hF hP hS => ?_)
      obtain ⟨h73, hF⟩ := hF
      exact W.zret (v := r72) hx hb hr h73.1 (fun t ht hW => ⟨⟨r72, σ71, rfl, hF, (by unfold sm_B; rw [ht]; exact hP)⟩, hS.F ht⟩) hS.2.2 dX11_readClass_26
theorem dX11_wide_0 : decode cX11_wide 0 = .ok (.iload_n 0, 1) := by decide +kernel
theorem dX11_wide_1 : decode cX11_wide 1 = .ok (.ifCond .ne 7, 3) := by decide +kernel
theorem dX11_wide_4 : decode cX11_wide 4 = .ok (.iconst 5, 1) := by decide +kernel
theorem dX11_wide_5 : decode cX11_wide 5 = .ok (.goto 92, 3) := by decide +kernel
theorem dX11_wide_8 : decode cX11_wide 8 = .ok (.iload_n 0, 1) := by decide +kernel
theorem dX11_wide_9 : decode cX11_wide 9 = .ok (.bipush 19, 2) := by decide +kernel
theorem dX11_wide_11 : decode cX11_wide 11 = .ok (.if_icmp .eq 9, 3) := by decide +kernel
theorem dX11_wide_14 : decode cX11_wide 14 = .ok (.iload_n 0, 1) := by decide +kernel
theorem dX11_wide_15 : decode cX11_wide 15 = .ok (.bipush 20, 2) := by decide +kernel
theorem dX11_wide_17 : decode cX11_wide 17 = .ok (.if_icmp .ne 7, 3) := by decide +kernel
theorem dX11_wide_20 : decode cX11_wide 20 = .ok (.iconst 4, 1) := by decide +kernel
theorem dX11_wide_21 : decode cX11_wide 21 = .ok (.goto 76, 3) := by decide +kernel
theorem dX11_wide_24 : decode cX11_wide 24 = .ok (.iload_n 0, 1) := by decide +kernel
theorem dX11_wide_25 : decode cX11_wide 25 = .ok (.bipush 21, 2) := by decide +kernel
theorem dX11_wide_27 : decode cX11_wide 27 = .ok (.if_icmp .lt 9, 3) := by decide +kernel
theorem dX11_wide_30 : decode cX11_wide 30 = .ok (.iload_n 0, 1) := by decide +kernel
theorem dX11_wide_31 : decode cX11_wide 31 = .ok (.bipush 25, 2) := by decide +kernel
theorem dX11_wide_33 : decode cX11_wide 33 = .ok (.if_icmp .le 21, 3) := by decide +kernel
theorem dX11_wide_36 : decode cX11_wide 36 = .ok (.iload_n 0, 1) := by decide +kernel
theorem dX11_wide_37 : decode cX11_wide 37 = .ok (.bipush 27, 2) := by decide +kernel
theorem dX11_wide_39 : decode cX11_wide 39 = .ok (.if_icmp .eq 15, 3) := by decide +kernel
theorem dX11_wide_42 : decode cX11_wide 42 = .ok (.iload_n 0, 1) := by decide +kernel
theorem dX11_wide_43 : decode cX11_wide 43 = .ok (.bipush 28, 2) := by decide +kernel
theorem dX11_wide_45 : decode cX11_wide 45 = .ok (.if_icmp .eq 9, 3) := by decide +kernel
theorem dX11_wide_48 : decode cX11_wide 48 = .ok (.iload_n 0, 1) := by decide +kernel
theorem dX11_wide_49 : decode cX11_wide 49 = .ok (.bipush 36, 2) := by decide +kernel
theorem dX11_wide_51 : decode cX11_wide 51 = .ok (.if_icmp .ne 7, 3) := by decide +kernel
theorem dX11_wide_54 : decode cX11_wide 54 = .ok (.iconst 3, 1) := by decide +kernel
theorem dX11_wide_55 : decode cX11_wide 55 = .ok (.goto 42, 3) := by decide +kernel
theorem dX11_wide_58 : decode cX11_wide 58 = .ok (.iload_n 0, 1) := by decide +kernel
theorem dX11_wide_59 : decode cX11_wide 59 = .ok (.iconst 2, 1) := by decide +kernel
theorem dX11_wide_60 : decode cX11_wide 60 = .ok (.if_icmp .eq 32, 3) := by decide +kernel
theorem dX11_wide_63 : decode cX11_wide 63 = .ok (.iload_n 0, 1) := by decide +kernel
theorem dX11_wide_64 : decode cX11_wide 64 = .ok (.iconst 3, 1) := by decide +kernel
theorem dX11_wide_65 : decode cX11_wide 65 = .ok (.if_icmp .eq 27, 3) := by decide +kernel
theorem dX11_wide_68 : decode cX11_wide 68 = .ok (.iload_n 0, 1) := by decide +kernel
theorem dX11_wide_69 : decode cX11_wide 69 = .ok (.bipush 26, 2) := by decide +kernel
theorem dX11_wide_71 : decode cX11_wide 71 = .ok (.if_icmp .eq 21, 3) := by decide +kernel
theorem dX11_wide_74 : decode cX11_wide 74 = .ok (.iload_n 0, 1) := by decide +kernel
theorem dX11_wide_75 : decode cX11_wide 75 = .ok (.bipush 29, 2) := by decide +kernel
theorem dX11_wide_77 : decode cX11_wide 77 = .ok (.if_icmp .lt 9, 3) := by decide +kernel
theorem dX11_wide_80 : decode cX11_wide 80 = .ok (.iload_n 0, 1) := by decide +kernel
theorem dX11_wide_81 : decode cX11_wide 81 = .ok (.bipush 31, 2) := by decide +kernel
theorem dX11_wide_83 : decode cX11_wide 83 = .ok (.if_icmp .le 9, 3) := by decide +kernel
theorem dX11_wide_86 : decode cX11_wide 86 = .ok (.iload_n 0, 1) := by decide +kernel
theorem dX11_wide_87 : decode cX11_wide 87 = .ok (.bipush 35, 2) := by decide +kernel
theorem dX11_wide_89 : decode cX11_wide 89 = .ok (.if_icmp .ne 7, 3) := by decide +kernel
theorem dX11_wide_92 : decode cX11_wide 92 = .ok (.iconst 2, 1) := by decide +kernel
theorem dX11_wide_93 : decode cX11_wide 93 = .ok (.goto 4, 3) := by decide +kernel
theorem dX11_wide_96 : decode cX11_wide 96 = .ok (.iconst 1, 1) := by decide +kernel
theorem dX11_wide_97 : decode cX11_wide 97 = .ok (.ireturn, 1) := by decide +kernel
def wp_X11_wide : List Cond := .code yX11_wide cX11_wide 1 (some .int) :: []
theorem wq_X11_wide : wp_X11_wide.all goodWord = true := wa_c rfl (by decide +kernel)
theorem wt_X11_wide : GoodIn lw_tbl wp_X11_wide := wm_c (List.mem_of_getElem? (i := 1254) (by decide +kernel)) rfl (goodIn_r _ [] (by decide +kernel) (by decide +kernel))
set_option maxHeartbeats 4000000 in
set_option maxRecDepth 100000 in
theorem c_X11_wide (l : Launch) (D : va_G) (sz t0 : Nat) (σ : sm_S) (α : sm_A) (p1 : Int32) (K : Int32 → sm_S → Prop) (hF : mp_X11_wide σ p1 K) : Met l yX11_wide wp_X11_wide { frames := 0, cells := 0, slots := 0, locals := 0 } (sm_P sm_wM sm_tM 40 D sz t0 σ α [.int p1]) (va_Qi K (sm_B sm_wM D α) (sm_a α 40 sz)) 0 0 (sm_a α 40 sz) := by
  refine Met.ofW (cc := cX11_wide) (maxL := 1) (ret := (some .int)) (by decide) rfl ?_
  intro p e s m args below meth c s₁ B hml hv
  obtain ⟨rfl, hsz, hP, hK, hD0, hE⟩ := hv
  have hx := B.exec
  have hb := B.bytes
  have hr := B.returns
  have hts := atoms_spec (ws := wp_X11_wide) B.pre
  have hown : s.vm.findClass RX11 = some m.cls := findClass_of_methodNamed B.named
  have hlocks := B.notSynchronized
  subst hsz
  have hD : sm_D (sm_a α 40 s.heap.size) α 40 := hD0.own
  have hA : ∀ q : Nat, s.heap.size ≤ q → sm_a α 40 s.heap.size q := fun q h => Or.inr h
  generalize hAe : sm_a α 40 s.heap.size = A at hD hA hE ⊢
  have hS : va_S A s.heap s.heap [] := va_S.rf
  have hl := lv_entry ([.int p1]) (n := 1) (Nat.le_of_ble_eq_true rfl)
  rw [lg_entry_eq]
  generalize (lg_sl ([.int p1]) ++ List.replicate (1 - (lg_sl ([.int p1])).length) Slot.unset).toArray = ls at hl ⊢
  have hl : lv_has ls 1 [(0, .int p1)] := hl
  have B97 : ∀ (σ : sm_S) (y0 : Int32), mp_X11_wide_97 K σ y0 → sm_J p l e (headSpec wp_X11_wide { frames := 0, cells := 0, slots := 0, locals := 0 }).room s m ([.int p1] : List Value).toArray below meth c (MQ below (va_Qi K (sm_B sm_wM D α) A) ([.int p1] : List Value).toArray s 0 0 A) D A 1 (sm_wM σ α) 97 [] [.int y0] := by
    intro σ y0 hF H locs ls hP hS hl
    unfold mp_X11_wide_97 at hF
    exact W.iret (v := y0) hx hb hr (fun t ht hW => ⟨⟨y0, σ, rfl, hF, (by unfold sm_B; rw [ht]; exact hP)⟩, hS.F ht⟩) hS.2.2 dX11_wide_97
  have B92 : ∀ (σ : sm_S), mp_X11_wide_92 K σ → sm_J p l e (headSpec wp_X11_wide { frames := 0, cells := 0, slots := 0, locals := 0 }).room s m ([.int p1] : List Value).toArray below meth c (MQ below (va_Qi K (sm_B sm_wM D α) A) ([.int p1] : List Value).toArray s 0 0 A) D A 1 (sm_wM σ α) 92 [] [] := by
    intro σ hF H locs ls hP hS hl
    unfold mp_X11_wide_92 at hF
    refine lv_iconst (v := 2) hx hb dX11_wide_92 (by decide) ?_
    refine lv_goto (tgt := 97) hx hb dX11_wide_93 (by decide) ?_
    exact B97 σ 2 hF H locs ls hP hS (lv_sub hl [] rfl)
  have B86 : ∀ (σ : sm_S) (x0 : Int32), mp_X11_wide_86 K σ x0 → sm_J p l e (headSpec wp_X11_wide { frames := 0, cells := 0, slots := 0, locals := 0 }).room s m ([.int p1] : List Value).toArray below meth c (MQ below (va_Qi K (sm_B sm_wM D α) A) ([.int p1] : List Value).toArray s 0 0 A) D A 1 (sm_wM σ α) 86 [(0, .int x0)] [] := by
    intro σ x0 hF H locs ls hP hS hl
    unfold mp_X11_wide_86 at hF
    refine lv_iload_n hx hb dX11_wide_86 rfl (lv_at hl 0 rfl) ?_
    refine lv_bipush (v := 35) hx hb dX11_wide_87 (by decide) ?_
    refine lv_icmp_ne (tgt := 96) hx hb dX11_wide_89 (by decide) (fun h1 => ?_) (fun h1 => ?_)
    · replace hF := hF.1 h1
      refine lv_iconst (v := 1) hx hb dX11_wide_96 (by decide) ?_
      exact B97 σ 1 hF H locs ls hP hS (lv_sub hl [] rfl)
    · replace hF := hF.2 h1
      exact B92 σ hF H locs ls hP hS (lv_sub hl [] rfl)
  have B54 : ∀ (σ : sm_S), mp_X11_wide_54 K σ → sm_J p l e (headSpec wp_X11_wide { frames := 0, cells := 0, slots := 0, locals := 0 }).room s m ([.int p1] : List Value).toArray below meth c (MQ below (va_Qi K (sm_B sm_wM D α) A) ([.int p1] : List Value).toArray s 0 0 A) D A 1 (sm_wM σ α) 54 [] [] := by
    intro σ hF H locs ls hP hS hl
    unfold mp_X11_wide_54 at hF
    refine lv_iconst (v := 3) hx hb dX11_wide_54 (by decide) ?_
    refine lv_goto (tgt := 97) hx hb dX11_wide_55 (by decide) ?_
    exact B97 σ 3 hF H locs ls hP hS (lv_sub hl [] rfl)
  have B36 : ∀ (σ : sm_S) (x0 : Int32), mp_X11_wide_36 K σ x0 → sm_J p l e (headSpec wp_X11_wide { frames := 0, cells := 0, slots := 0, locals := 0 }).room s m ([.int p1] : List Value).toArray below meth c (MQ below (va_Qi K (sm_B sm_wM D α) A) ([.int p1] : List Value).toArray s 0 0 A) D A 1 (sm_wM σ α) 36 [(0, .int x0)] [] := by
    intro σ x0 hF H locs ls hP hS hl
    unfold mp_X11_wide_36 at hF
    refine lv_iload_n hx hb dX11_wide_36 rfl (lv_at hl 0 rfl) ?_
    refine lv_bipush (v := 27) hx hb dX11_wide_37 (by decide) ?_
    refine lv_icmp_eq (tgt := 54) hx hb dX11_wide_39 (by decide) (fun h2 => ?_) (fun h2 => ?_)
    · replace hF := hF.1 h2
      exact B54 σ hF H locs ls hP hS (lv_sub hl [] rfl)
    · replace hF := hF.2 h2
      refine lv_iload_n hx hb dX11_wide_42 rfl (lv_at hl 0 rfl) ?_
      refine lv_bipush (v := 28) hx hb dX11_wide_43 (by decide) ?_
      refine lv_icmp_eq (tgt := 54) hx hb dX11_wide_45 (by decide) (fun h3 => ?_) (fun h3 => ?_)
      · replace hF := hF.1 h3
        exact B54 σ hF H locs ls hP hS (lv_sub hl [] rfl)
      · replace hF := hF.2 h3
        refine lv_iload_n hx hb dX11_wide_48 rfl (lv_at hl 0 rfl) ?_
        refine lv_bipush (v := 36) hx hb dX11_wide_49 (by decide) ?_
        refine lv_icmp_ne (tgt := 58) hx hb dX11_wide_51 (by decide) (fun h4 => ?_) (fun h4 => ?_)
        · replace hF := hF.1 h4
          refine lv_iload_n hx hb dX11_wide_58 rfl (lv_at hl 0 rfl) ?_
          refine lv_iconst (v := 2) hx hb dX11_wide_59 (by decide) ?_
          refine lv_icmp_eq (tgt := 92) hx hb dX11_wide_60 (by decide) (fun h5 => ?_) (fun h5 => ?_)
          · replace hF := hF.1 h5
            exact B92 σ hF H locs ls hP hS (lv_sub hl [] rfl)
          · replace hF := hF.2 h5
            refine lv_iload_n hx hb dX11_wide_63 rfl (lv_at hl 0 rfl) ?_
            refine lv_iconst (v := 3) hx hb dX11_wide_64 (by decide) ?_
            refine lv_icmp_eq (tgt := 92) hx hb dX11_wide_65 (by decide) (fun h6 => ?_) (fun h6 => ?_)
            · replace hF := hF.1 h6
              exact B92 σ hF H locs ls hP hS (lv_sub hl [] rfl)
            · replace hF := hF.2 h6
              refine lv_iload_n hx hb dX11_wide_68 rfl (lv_at hl 0 rfl) ?_
              refine lv_bipush (v := 26) hx hb dX11_wide_69 (by decide) ?_
              refine lv_icmp_eq (tgt := 92) hx hb dX11_wide_71 (by decide) (fun h7 => ?_) (fun h7 => ?_)
              · replace hF := hF.1 h7
                exact B92 σ hF H locs ls hP hS (lv_sub hl [] rfl)
              · replace hF := hF.2 h7
                refine lv_iload_n hx hb dX11_wide_74 rfl (lv_at hl 0 rfl) ?_
                refine lv_bipush (v := 29) hx hb dX11_wide_75 (by decide) ?_
                refine lv_icmp_lt (tgt := 86) hx hb dX11_wide_77 (by decide) (fun h8 => ?_) (fun h8 => ?_)
                · replace hF := hF.1 h8
                  exact B86 σ x0 hF H locs ls hP hS (lv_sub hl [0] rfl)
                · replace hF := hF.2 h8
                  refine lv_iload_n hx hb dX11_wide_80 rfl (lv_at hl 0 rfl) ?_
                  refine lv_bipush (v := 31) hx hb dX11_wide_81 (by decide) ?_
                  refine lv_icmp_le (tgt := 92) hx hb dX11_wide_83 (by decide) (fun h9 => ?_) (fun h9 => ?_)
                  · replace hF := hF.1 h9
                    exact B92 σ hF H locs ls hP hS (lv_sub hl [] rfl)
                  · replace hF := hF.2 h9
                    exact B86 σ x0 hF H locs ls hP hS (lv_sub hl [0] rfl)
        · replace hF := hF.2 h4
          exact B54 σ hF H locs ls hP hS (lv_sub hl [] rfl)
  have B20 : ∀ (σ : sm_S), mp_X11_wide_20 K σ → sm_J p l e (headSpec wp_X11_wide { frames := 0, cells := 0, slots := 0, locals := 0 }).room s m ([.int p1] : List Value).toArray below meth c (MQ below (va_Qi K (sm_B sm_wM D α) A) ([.int p1] : List Value).toArray s 0 0 A) D A 1 (sm_wM σ α) 20 [] [] := by
    intro σ hF H locs ls hP hS hl
    unfold mp_X11_wide_20 at hF
    refine lv_iconst (v := 4) hx hb dX11_wide_20 (by decide) ?_
    refine lv_goto (tgt := 97) hx hb dX11_wide_21 (by decide) ?_
    exact B97 σ 4 hF H locs ls hP hS (lv_sub hl [] rfl)
  unfold mp_X11_wide at hF
  revert hP hS
  generalize hLo : ([] : List Loc) = locs
  suffices h9 : ∀ (H : Heap) (locs : List Loc), va_P D vwCl (sm_wM σ α) H → va_S A s.heap H locs → W p l e (headSpec wp_X11_wide { frames := 0, cells := 0, slots := 0, locals := 0 }).room s m ([.int p1] : List Value).toArray below meth c H locs 0 0 (MQ below (va_Qi K (sm_B sm_wM D α) A) ([.int p1] : List Value).toArray s 0 0 A) (F0 m 0 ls []) from fun hP hS => h9 s.heap locs hP hS
  intro H locs hP hS
  refine lv_iload_n hx hb dX11_wide_0 rfl (lv_at hl 0 rfl) ?_
  refine lv_if_ne (tgt := 8) hx hb dX11_wide_1 (by decide) (fun h10 => ?_) (fun h10 => ?_)
  · replace hF := hF.1 h10
    refine lv_iload_n hx hb dX11_wide_8 rfl (lv_at hl 0 rfl) ?_
    refine lv_bipush (v := 19) hx hb dX11_wide_9 (by decide) ?_
    refine lv_icmp_eq (tgt := 20) hx hb dX11_wide_11 (by decide) (fun h11 => ?_) (fun h11 => ?_)
    · replace hF := hF.1 h11
      exact B20 σ hF H locs ls hP hS (lv_sub hl [] rfl)
    · replace hF := hF.2 h11
      refine lv_iload_n hx hb dX11_wide_14 rfl (lv_at hl 0 rfl) ?_
      refine lv_bipush (v := 20) hx hb dX11_wide_15 (by decide) ?_
      refine lv_icmp_ne (tgt := 24) hx hb dX11_wide_17 (by decide) (fun h12 => ?_) (fun h12 => ?_)
      · replace hF := hF.1 h12
        refine lv_iload_n hx hb dX11_wide_24 rfl (lv_at hl 0 rfl) ?_
        refine lv_bipush (v := 21) hx hb dX11_wide_25 (by decide) ?_
        refine lv_icmp_lt (tgt := 36) hx hb dX11_wide_27 (by decide) (fun h13 => ?_) (fun h13 => ?_)
        · replace hF := hF.1 h13
          exact B36 σ p1 hF H locs ls hP hS (lv_sub hl [0] rfl)
        · replace hF := hF.2 h13
          refine lv_iload_n hx hb dX11_wide_30 rfl (lv_at hl 0 rfl) ?_
          refine lv_bipush (v := 25) hx hb dX11_wide_31 (by decide) ?_
          refine lv_icmp_le (tgt := 54) hx hb dX11_wide_33 (by decide) (fun h14 => ?_) (fun h14 => ?_)
          · replace hF := hF.1 h14
            exact B54 σ hF H locs ls hP hS (lv_sub hl [] rfl)
          · replace hF := hF.2 h14
            exact B36 σ p1 hF H locs ls hP hS (lv_sub hl [0] rfl)
      · replace hF := hF.2 h12
        exact B20 σ hF H locs ls hP hS (lv_sub hl [] rfl)
  · replace hF := hF.2 h10
    refine lv_iconst (v := 5) hx hb dX11_wide_4 (by decide) ?_
    refine lv_goto (tgt := 97) hx hb dX11_wide_5 (by decide) ?_
    exact B97 σ 5 hF H locs ls hP hS (lv_sub hl [] rfl)
theorem dX11_readInstruction_0 : decode cX11_readInstruction 0 = .ok (.aload_n 0, 1) := by decide +kernel
theorem dX11_readInstruction_1 : decode cX11_readInstruction 1 = .ok (.getfield 77, 3) := by decide +kernel
theorem dX11_readInstruction_4 : decode cX11_readInstruction 4 = .ok (.istore_n 3, 1) := by decide +kernel
theorem dX11_readInstruction_5 : decode cX11_readInstruction 5 = .ok (.aload_n 0, 1) := by decide +kernel
theorem dX11_readInstruction_6 : decode cX11_readInstruction 6 = .ok (.iconst 0, 1) := by decide +kernel
theorem dX11_readInstruction_7 : decode cX11_readInstruction 7 = .ok (.bipush 41, 2) := by decide +kernel
theorem dX11_readInstruction_9 : decode cX11_readInstruction 9 = .ok (.invokevirtual 94, 3) := by decide +kernel
theorem dX11_readInstruction_12 : decode cX11_readInstruction 12 = .ok (.ifCond .ne 5, 3) := by decide +kernel
theorem dX11_readInstruction_15 : decode cX11_readInstruction 15 = .ok (.iconst 0, 1) := by decide +kernel
theorem dX11_readInstruction_16 : decode cX11_readInstruction 16 = .ok (.ireturn, 1) := by decide +kernel
theorem dX11_readInstruction_17 : decode cX11_readInstruction 17 = .ok (.aload_n 0, 1) := by decide +kernel
theorem dX11_readInstruction_18 : decode cX11_readInstruction 18 = .ok (.invokevirtual 98, 3) := by decide +kernel
theorem dX11_readInstruction_21 : decode cX11_readInstruction 21 = .ok (.istore 4, 2) := by decide +kernel
theorem dX11_readInstruction_23 : decode cX11_readInstruction 23 = .ok (.iload_n 3, 1) := by decide +kernel
theorem dX11_readInstruction_24 : decode cX11_readInstruction 24 = .ok (.iload 4, 2) := by decide +kernel
theorem dX11_readInstruction_26 : decode cX11_readInstruction 26 = .ok (.invokestatic 116, 3) := by decide +kernel
theorem dX11_readInstruction_29 : decode cX11_readInstruction 29 = .ok (.iadd, 1) := by decide +kernel
theorem dX11_readInstruction_30 : decode cX11_readInstruction 30 = .ok (.iload_n 2, 1) := by decide +kernel
theorem dX11_readInstruction_31 : decode cX11_readInstruction 31 = .ok (.if_icmp .le 9, 3) := by decide +kernel
theorem dX11_readInstruction_34 : decode cX11_readInstruction 34 = .ok (.aload_n 0, 1) := by decide +kernel
theorem dX11_readInstruction_35 : decode cX11_readInstruction 35 = .ok (.iload_n 3, 1) := by decide +kernel
theorem dX11_readInstruction_36 : decode cX11_readInstruction 36 = .ok (.invokevirtual 87, 3) := by decide +kernel
theorem dX11_readInstruction_39 : decode cX11_readInstruction 39 = .ok (.ireturn, 1) := by decide +kernel
theorem dX11_readInstruction_40 : decode cX11_readInstruction 40 = .ok (.iconst 1, 1) := by decide +kernel
theorem dX11_readInstruction_41 : decode cX11_readInstruction 41 = .ok (.istore 5, 2) := by decide +kernel
theorem dX11_readInstruction_43 : decode cX11_readInstruction 43 = .ok (.iload 4, 2) := by decide +kernel
theorem dX11_readInstruction_45 : decode cX11_readInstruction 45 = .ok (.ifCond .ne 57, 3) := by decide +kernel
theorem dX11_readInstruction_48 : decode cX11_readInstruction 48 = .ok (.aload_n 0, 1) := by decide +kernel
theorem dX11_readInstruction_49 : decode cX11_readInstruction 49 = .ok (.iconst 0, 1) := by decide +kernel
theorem dX11_readInstruction_50 : decode cX11_readInstruction 50 = .ok (.sipush 255, 3) := by decide +kernel
theorem dX11_readInstruction_53 : decode cX11_readInstruction 53 = .ok (.invokevirtual 94, 3) := by decide +kernel
theorem dX11_readInstruction_56 : decode cX11_readInstruction 56 = .ok (.ifCond .eq 40, 3) := by decide +kernel
theorem dX11_readInstruction_59 : decode cX11_readInstruction 59 = .ok (.aload_n 0, 1) := by decide +kernel
theorem dX11_readInstruction_60 : decode cX11_readInstruction 60 = .ok (.iconst 0, 1) := by decide +kernel
theorem dX11_readInstruction_61 : decode cX11_readInstruction 61 = .ok (.sipush 255, 3) := by decide +kernel
theorem dX11_readInstruction_64 : decode cX11_readInstruction 64 = .ok (.invokevirtual 94, 3) := by decide +kernel
theorem dX11_readInstruction_67 : decode cX11_readInstruction 67 = .ok (.ifCond .eq 29, 3) := by decide +kernel
theorem dX11_readInstruction_70 : decode cX11_readInstruction 70 = .ok (.aload_n 0, 1) := by decide +kernel
theorem dX11_readInstruction_71 : decode cX11_readInstruction 71 = .ok (.iconst 0, 1) := by decide +kernel
theorem dX11_readInstruction_72 : decode cX11_readInstruction 72 = .ok (.sipush 255, 3) := by decide +kernel
theorem dX11_readInstruction_75 : decode cX11_readInstruction 75 = .ok (.invokevirtual 94, 3) := by decide +kernel
theorem dX11_readInstruction_78 : decode cX11_readInstruction 78 = .ok (.ifCond .eq 18, 3) := by decide +kernel
theorem dX11_readInstruction_81 : decode cX11_readInstruction 81 = .ok (.aload_n 0, 1) := by decide +kernel
theorem dX11_readInstruction_82 : decode cX11_readInstruction 82 = .ok (.iconst 0, 1) := by decide +kernel
theorem dX11_readInstruction_83 : decode cX11_readInstruction 83 = .ok (.sipush 255, 3) := by decide +kernel
theorem dX11_readInstruction_86 : decode cX11_readInstruction 86 = .ok (.invokevirtual 94, 3) := by decide +kernel
theorem dX11_readInstruction_89 : decode cX11_readInstruction 89 = .ok (.ifCond .eq 7, 3) := by decide +kernel
theorem dX11_readInstruction_92 : decode cX11_readInstruction 92 = .ok (.iconst 1, 1) := by decide +kernel
theorem dX11_readInstruction_93 : decode cX11_readInstruction 93 = .ok (.goto 4, 3) := by decide +kernel
theorem dX11_readInstruction_96 : decode cX11_readInstruction 96 = .ok (.iconst 0, 1) := by decide +kernel
theorem dX11_readInstruction_97 : decode cX11_readInstruction 97 = .ok (.istore 5, 2) := by decide +kernel
theorem dX11_readInstruction_99 : decode cX11_readInstruction 99 = .ok (.goto 340, 3) := by decide +kernel
theorem dX11_readInstruction_102 : decode cX11_readInstruction 102 = .ok (.iload 4, 2) := by decide +kernel
theorem dX11_readInstruction_104 : decode cX11_readInstruction 104 = .ok (.iconst 2, 1) := by decide +kernel
theorem dX11_readInstruction_105 : decode cX11_readInstruction 105 = .ok (.if_icmp .eq 9, 3) := by decide +kernel
theorem dX11_readInstruction_108 : decode cX11_readInstruction 108 = .ok (.iload 4, 2) := by decide +kernel
theorem dX11_readInstruction_110 : decode cX11_readInstruction 110 = .ok (.iconst 3, 1) := by decide +kernel
theorem dX11_readInstruction_111 : decode cX11_readInstruction 111 = .ok (.if_icmp .ne 21, 3) := by decide +kernel
theorem dX11_readInstruction_114 : decode cX11_readInstruction 114 = .ok (.aload_n 0, 1) := by decide +kernel
theorem dX11_readInstruction_115 : decode cX11_readInstruction 115 = .ok (.iconst 0, 1) := by decide +kernel
theorem dX11_readInstruction_116 : decode cX11_readInstruction 116 = .ok (.aload_n 0, 1) := by decide +kernel
theorem dX11_readInstruction_117 : decode cX11_readInstruction 117 = .ok (.getfield 52, 3) := by decide +kernel
theorem dX11_readInstruction_120 : decode cX11_readInstruction 120 = .ok (.iload_n 1, 1) := by decide +kernel
theorem dX11_readInstruction_121 : decode cX11_readInstruction 121 = .ok (.iaload, 1) := by decide +kernel
theorem dX11_readInstruction_122 : decode cX11_readInstruction 122 = .ok (.iconst 1, 1) := by decide +kernel
theorem dX11_readInstruction_123 : decode cX11_readInstruction 123 = .ok (.isub, 1) := by decide +kernel
theorem dX11_readInstruction_124 : decode cX11_readInstruction 124 = .ok (.invokevirtual 94, 3) := by decide +kernel
theorem dX11_readInstruction_127 : decode cX11_readInstruction 127 = .ok (.istore 5, 2) := by decide +kernel
theorem dX11_readInstruction_129 : decode cX11_readInstruction 129 = .ok (.goto 310, 3) := by decide +kernel
theorem dX11_readInstruction_132 : decode cX11_readInstruction 132 = .ok (.iload 4, 2) := by decide +kernel
theorem dX11_readInstruction_134 : decode cX11_readInstruction 134 = .ok (.bipush 19, 2) := by decide +kernel
theorem dX11_readInstruction_136 : decode cX11_readInstruction 136 = .ok (.if_icmp .eq 10, 3) := by decide +kernel
theorem dX11_readInstruction_139 : decode cX11_readInstruction 139 = .ok (.iload 4, 2) := by decide +kernel
theorem dX11_readInstruction_141 : decode cX11_readInstruction 141 = .ok (.bipush 20, 2) := by decide +kernel
theorem dX11_readInstruction_143 : decode cX11_readInstruction 143 = .ok (.if_icmp .ne 44, 3) := by decide +kernel
theorem dX11_readInstruction_146 : decode cX11_readInstruction 146 = .ok (.aload_n 0, 1) := by decide +kernel
theorem dX11_readInstruction_147 : decode cX11_readInstruction 147 = .ok (.iconst 0, 1) := by decide +kernel
theorem dX11_readInstruction_148 : decode cX11_readInstruction 148 = .ok (.iconst 5, 1) := by decide +kernel
theorem dX11_readInstruction_149 : decode cX11_readInstruction 149 = .ok (.invokevirtual 94, 3) := by decide +kernel
theorem dX11_readInstruction_152 : decode cX11_readInstruction 152 = .ok (.ifCond .eq 29, 3) := by decide +kernel
theorem dX11_readInstruction_155 : decode cX11_readInstruction 155 = .ok (.aload_n 0, 1) := by decide +kernel
theorem dX11_readInstruction_156 : decode cX11_readInstruction 156 = .ok (.iconst 0, 1) := by decide +kernel
theorem dX11_readInstruction_157 : decode cX11_readInstruction 157 = .ok (.sipush 255, 3) := by decide +kernel
theorem dX11_readInstruction_160 : decode cX11_readInstruction 160 = .ok (.invokevirtual 94, 3) := by decide +kernel
theorem dX11_readInstruction_163 : decode cX11_readInstruction 163 = .ok (.ifCond .eq 18, 3) := by decide +kernel
theorem dX11_readInstruction_166 : decode cX11_readInstruction 166 = .ok (.aload_n 0, 1) := by decide +kernel
theorem dX11_readInstruction_167 : decode cX11_readInstruction 167 = .ok (.iconst 0, 1) := by decide +kernel
theorem dX11_readInstruction_168 : decode cX11_readInstruction 168 = .ok (.sipush 255, 3) := by decide +kernel
theorem dX11_readInstruction_171 : decode cX11_readInstruction 171 = .ok (.invokevirtual 94, 3) := by decide +kernel
theorem dX11_readInstruction_174 : decode cX11_readInstruction 174 = .ok (.ifCond .eq 7, 3) := by decide +kernel
theorem dX11_readInstruction_177 : decode cX11_readInstruction 177 = .ok (.iconst 1, 1) := by decide +kernel
theorem dX11_readInstruction_178 : decode cX11_readInstruction 178 = .ok (.goto 4, 3) := by decide +kernel
theorem dX11_readInstruction_181 : decode cX11_readInstruction 181 = .ok (.iconst 0, 1) := by decide +kernel
theorem dX11_readInstruction_182 : decode cX11_readInstruction 182 = .ok (.istore 5, 2) := by decide +kernel
theorem dX11_readInstruction_184 : decode cX11_readInstruction 184 = .ok (.goto 255, 3) := by decide +kernel
theorem dX11_readInstruction_187 : decode cX11_readInstruction 187 = .ok (.iload 4, 2) := by decide +kernel
theorem dX11_readInstruction_189 : decode cX11_readInstruction 189 = .ok (.bipush 21, 2) := by decide +kernel
theorem dX11_readInstruction_191 : decode cX11_readInstruction 191 = .ok (.if_icmp .lt 42, 3) := by decide +kernel
theorem dX11_readInstruction_194 : decode cX11_readInstruction 194 = .ok (.iload 4, 2) := by decide +kernel
theorem dX11_readInstruction_196 : decode cX11_readInstruction 196 = .ok (.bipush 25, 2) := by decide +kernel
theorem dX11_readInstruction_198 : decode cX11_readInstruction 198 = .ok (.if_icmp .gt 35, 3) := by decide +kernel
theorem dX11_readInstruction_201 : decode cX11_readInstruction 201 = .ok (.aload_n 0, 1) := by decide +kernel
theorem dX11_readInstruction_202 : decode cX11_readInstruction 202 = .ok (.iconst 0, 1) := by decide +kernel
theorem dX11_readInstruction_203 : decode cX11_readInstruction 203 = .ok (.sipush 255, 3) := by decide +kernel
theorem dX11_readInstruction_206 : decode cX11_readInstruction 206 = .ok (.invokevirtual 94, 3) := by decide +kernel
theorem dX11_readInstruction_209 : decode cX11_readInstruction 209 = .ok (.ifCond .eq 18, 3) := by decide +kernel
theorem dX11_readInstruction_212 : decode cX11_readInstruction 212 = .ok (.aload_n 0, 1) := by decide +kernel
theorem dX11_readInstruction_213 : decode cX11_readInstruction 213 = .ok (.iconst 0, 1) := by decide +kernel
theorem dX11_readInstruction_214 : decode cX11_readInstruction 214 = .ok (.sipush 255, 3) := by decide +kernel
theorem dX11_readInstruction_217 : decode cX11_readInstruction 217 = .ok (.invokevirtual 94, 3) := by decide +kernel
theorem dX11_readInstruction_220 : decode cX11_readInstruction 220 = .ok (.ifCond .eq 7, 3) := by decide +kernel
theorem dX11_readInstruction_223 : decode cX11_readInstruction 223 = .ok (.iconst 1, 1) := by decide +kernel
theorem dX11_readInstruction_224 : decode cX11_readInstruction 224 = .ok (.goto 4, 3) := by decide +kernel
theorem dX11_readInstruction_227 : decode cX11_readInstruction 227 = .ok (.iconst 0, 1) := by decide +kernel
theorem dX11_readInstruction_228 : decode cX11_readInstruction 228 = .ok (.istore 5, 2) := by decide +kernel
theorem dX11_readInstruction_230 : decode cX11_readInstruction 230 = .ok (.goto 209, 3) := by decide +kernel
theorem dX11_readInstruction_233 : decode cX11_readInstruction 233 = .ok (.iload 4, 2) := by decide +kernel
theorem dX11_readInstruction_235 : decode cX11_readInstruction 235 = .ok (.bipush 26, 2) := by decide +kernel
theorem dX11_readInstruction_237 : decode cX11_readInstruction 237 = .ok (.if_icmp .eq 17, 3) := by decide +kernel
theorem dX11_readInstruction_240 : decode cX11_readInstruction 240 = .ok (.iload 4, 2) := by decide +kernel
theorem dX11_readInstruction_242 : decode cX11_readInstruction 242 = .ok (.bipush 29, 2) := by decide +kernel
theorem dX11_readInstruction_244 : decode cX11_readInstruction 244 = .ok (.if_icmp .eq 10, 3) := by decide +kernel
theorem dX11_readInstruction_247 : decode cX11_readInstruction 247 = .ok (.iload 4, 2) := by decide +kernel
theorem dX11_readInstruction_249 : decode cX11_readInstruction 249 = .ok (.bipush 30, 2) := by decide +kernel
theorem dX11_readInstruction_251 : decode cX11_readInstruction 251 = .ok (.if_icmp .ne 12, 3) := by decide +kernel
theorem dX11_readInstruction_254 : decode cX11_readInstruction 254 = .ok (.aload_n 0, 1) := by decide +kernel
theorem dX11_readInstruction_255 : decode cX11_readInstruction 255 = .ok (.invokevirtual 112, 3) := by decide +kernel
theorem dX11_readInstruction_258 : decode cX11_readInstruction 258 = .ok (.istore 5, 2) := by decide +kernel
theorem dX11_readInstruction_260 : decode cX11_readInstruction 260 = .ok (.goto 179, 3) := by decide +kernel
theorem dX11_readInstruction_263 : decode cX11_readInstruction 263 = .ok (.iload 4, 2) := by decide +kernel
theorem dX11_readInstruction_265 : decode cX11_readInstruction 265 = .ok (.bipush 27, 2) := by decide +kernel
theorem dX11_readInstruction_267 : decode cX11_readInstruction 267 = .ok (.if_icmp .eq 10, 3) := by decide +kernel
theorem dX11_readInstruction_270 : decode cX11_readInstruction 270 = .ok (.iload 4, 2) := by decide +kernel
theorem dX11_readInstruction_272 : decode cX11_readInstruction 272 = .ok (.bipush 28, 2) := by decide +kernel
theorem dX11_readInstruction_274 : decode cX11_readInstruction 274 = .ok (.if_icmp .ne 39, 3) := by decide +kernel
theorem dX11_readInstruction_277 : decode cX11_readInstruction 277 = .ok (.aload_n 0, 1) := by decide +kernel
theorem dX11_readInstruction_278 : decode cX11_readInstruction 278 = .ok (.invokevirtual 112, 3) := by decide +kernel
theorem dX11_readInstruction_281 : decode cX11_readInstruction 281 = .ok (.ifCond .eq 26, 3) := by decide +kernel
theorem dX11_readInstruction_284 : decode cX11_readInstruction 284 = .ok (.aload_n 0, 1) := by decide +kernel
theorem dX11_readInstruction_285 : decode cX11_readInstruction 285 = .ok (.iconst 0, 1) := by decide +kernel
theorem dX11_readInstruction_286 : decode cX11_readInstruction 286 = .ok (.aload_n 0, 1) := by decide +kernel
theorem dX11_readInstruction_287 : decode cX11_readInstruction 287 = .ok (.getfield 25, 3) := by decide +kernel
theorem dX11_readInstruction_290 : decode cX11_readInstruction 290 = .ok (.aload_n 0, 1) := by decide +kernel
theorem dX11_readInstruction_291 : decode cX11_readInstruction 291 = .ok (.invokevirtual 98, 3) := by decide +kernel
theorem dX11_readInstruction_294 : decode cX11_readInstruction 294 = .ok (.iaload, 1) := by decide +kernel
theorem dX11_readInstruction_295 : decode cX11_readInstruction 295 = .ok (.iconst 1, 1) := by decide +kernel
theorem dX11_readInstruction_296 : decode cX11_readInstruction 296 = .ok (.isub, 1) := by decide +kernel
theorem dX11_readInstruction_297 : decode cX11_readInstruction 297 = .ok (.invokevirtual 94, 3) := by decide +kernel
theorem dX11_readInstruction_300 : decode cX11_readInstruction 300 = .ok (.ifCond .eq 7, 3) := by decide +kernel
theorem dX11_readInstruction_303 : decode cX11_readInstruction 303 = .ok (.iconst 1, 1) := by decide +kernel
theorem dX11_readInstruction_304 : decode cX11_readInstruction 304 = .ok (.goto 4, 3) := by decide +kernel
theorem dX11_readInstruction_307 : decode cX11_readInstruction 307 = .ok (.iconst 0, 1) := by decide +kernel
theorem dX11_readInstruction_308 : decode cX11_readInstruction 308 = .ok (.istore 5, 2) := by decide +kernel
theorem dX11_readInstruction_310 : decode cX11_readInstruction 310 = .ok (.goto 129, 3) := by decide +kernel
theorem dX11_readInstruction_313 : decode cX11_readInstruction 313 = .ok (.iload 4, 2) := by decide +kernel
theorem dX11_readInstruction_315 : decode cX11_readInstruction 315 = .ok (.bipush 31, 2) := by decide +kernel
theorem dX11_readInstruction_317 : decode cX11_readInstruction 317 = .ok (.if_icmp .ne 17, 3) := by decide +kernel
theorem dX11_readInstruction_320 : decode cX11_readInstruction 320 = .ok (.aload_n 0, 1) := by decide +kernel
theorem dX11_readInstruction_321 : decode cX11_readInstruction 321 = .ok (.iconst 0, 1) := by decide +kernel
theorem dX11_readInstruction_322 : decode cX11_readInstruction 322 = .ok (.aload_n 0, 1) := by decide +kernel
theorem dX11_readInstruction_323 : decode cX11_readInstruction 323 = .ok (.getfield 91, 3) := by decide +kernel
theorem dX11_readInstruction_326 : decode cX11_readInstruction 326 = .ok (.invokevirtual 94, 3) := by decide +kernel
theorem dX11_readInstruction_329 : decode cX11_readInstruction 329 = .ok (.istore 5, 2) := by decide +kernel
theorem dX11_readInstruction_331 : decode cX11_readInstruction 331 = .ok (.goto 108, 3) := by decide +kernel
theorem dX11_readInstruction_334 : decode cX11_readInstruction 334 = .ok (.iload 4, 2) := by decide +kernel
theorem dX11_readInstruction_336 : decode cX11_readInstruction 336 = .ok (.bipush 35, 2) := by decide +kernel
theorem dX11_readInstruction_338 : decode cX11_readInstruction 338 = .ok (.if_icmp .ne 16, 3) := by decide +kernel
theorem dX11_readInstruction_341 : decode cX11_readInstruction 341 = .ok (.aload_n 0, 1) := by decide +kernel
theorem dX11_readInstruction_342 : decode cX11_readInstruction 342 = .ok (.iconst 0, 1) := by decide +kernel
theorem dX11_readInstruction_343 : decode cX11_readInstruction 343 = .ok (.sipush 255, 3) := by decide +kernel
theorem dX11_readInstruction_346 : decode cX11_readInstruction 346 = .ok (.invokevirtual 94, 3) := by decide +kernel
theorem dX11_readInstruction_349 : decode cX11_readInstruction 349 = .ok (.istore 5, 2) := by decide +kernel
theorem dX11_readInstruction_351 : decode cX11_readInstruction 351 = .ok (.goto 88, 3) := by decide +kernel
theorem dX11_readInstruction_354 : decode cX11_readInstruction 354 = .ok (.iload 4, 2) := by decide +kernel
theorem dX11_readInstruction_356 : decode cX11_readInstruction 356 = .ok (.bipush 36, 2) := by decide +kernel
theorem dX11_readInstruction_358 : decode cX11_readInstruction 358 = .ok (.if_icmp .ne 81, 3) := by decide +kernel
theorem dX11_readInstruction_361 : decode cX11_readInstruction 361 = .ok (.aload_n 0, 1) := by decide +kernel
theorem dX11_readInstruction_362 : decode cX11_readInstruction 362 = .ok (.invokevirtual 112, 3) := by decide +kernel
theorem dX11_readInstruction_365 : decode cX11_readInstruction 365 = .ok (.istore 5, 2) := by decide +kernel
theorem dX11_readInstruction_367 : decode cX11_readInstruction 367 = .ok (.iload 5, 2) := by decide +kernel
theorem dX11_readInstruction_369 : decode cX11_readInstruction 369 = .ok (.ifCond .eq 70, 3) := by decide +kernel
theorem dX11_readInstruction_372 : decode cX11_readInstruction 372 = .ok (.aload_n 0, 1) := by decide +kernel
theorem dX11_readInstruction_373 : decode cX11_readInstruction 373 = .ok (.invokevirtual 98, 3) := by decide +kernel
theorem dX11_readInstruction_376 : decode cX11_readInstruction 376 = .ok (.istore 6, 2) := by decide +kernel
theorem dX11_readInstruction_378 : decode cX11_readInstruction 378 = .ok (.aload_n 0, 1) := by decide +kernel
theorem dX11_readInstruction_379 : decode cX11_readInstruction 379 = .ok (.invokevirtual 83, 3) := by decide +kernel
theorem dX11_readInstruction_382 : decode cX11_readInstruction 382 = .ok (.bipush 16, 2) := by decide +kernel
theorem dX11_readInstruction_384 : decode cX11_readInstruction 384 = .ok (.if_icmp .ge 26, 3) := by decide +kernel
theorem dX11_readInstruction_387 : decode cX11_readInstruction 387 = .ok (.aload_n 0, 1) := by decide +kernel
theorem dX11_readInstruction_388 : decode cX11_readInstruction 388 = .ok (.getfield 31, 3) := by decide +kernel
theorem dX11_readInstruction_391 : decode cX11_readInstruction 391 = .ok (.bipush 16, 2) := by decide +kernel
theorem dX11_readInstruction_393 : decode cX11_readInstruction 393 = .ok (.iload 6, 2) := by decide +kernel
theorem dX11_readInstruction_395 : decode cX11_readInstruction 395 = .ok (.imul, 1) := by decide +kernel
theorem dX11_readInstruction_396 : decode cX11_readInstruction 396 = .ok (.aload_n 0, 1) := by decide +kernel
theorem dX11_readInstruction_397 : decode cX11_readInstruction 397 = .ok (.invokevirtual 83, 3) := by decide +kernel
theorem dX11_readInstruction_400 : decode cX11_readInstruction 400 = .ok (.iadd, 1) := by decide +kernel
theorem dX11_readInstruction_401 : decode cX11_readInstruction 401 = .ok (.iaload, 1) := by decide +kernel
theorem dX11_readInstruction_402 : decode cX11_readInstruction 402 = .ok (.iconst (-1), 1) := by decide +kernel
theorem dX11_readInstruction_403 : decode cX11_readInstruction 403 = .ok (.if_icmp .eq 7, 3) := by decide +kernel
theorem dX11_readInstruction_406 : decode cX11_readInstruction 406 = .ok (.iconst 1, 1) := by decide +kernel
theorem dX11_readInstruction_407 : decode cX11_readInstruction 407 = .ok (.goto 4, 3) := by decide +kernel
theorem dX11_readInstruction_410 : decode cX11_readInstruction 410 = .ok (.iconst 0, 1) := by decide +kernel
theorem dX11_readInstruction_411 : decode cX11_readInstruction 411 = .ok (.istore 7, 2) := by decide +kernel
theorem dX11_readInstruction_413 : decode cX11_readInstruction 413 = .ok (.iload 7, 2) := by decide +kernel
theorem dX11_readInstruction_415 : decode cX11_readInstruction 415 = .ok (.ifCond .eq 14, 3) := by decide +kernel
theorem dX11_readInstruction_418 : decode cX11_readInstruction 418 = .ok (.aload_n 0, 1) := by decide +kernel
theorem dX11_readInstruction_419 : decode cX11_readInstruction 419 = .ok (.iconst 0, 1) := by decide +kernel
theorem dX11_readInstruction_420 : decode cX11_readInstruction 420 = .ok (.sipush 255, 3) := by decide +kernel
theorem dX11_readInstruction_423 : decode cX11_readInstruction 423 = .ok (.invokevirtual 94, 3) := by decide +kernel
theorem dX11_readInstruction_426 : decode cX11_readInstruction 426 = .ok (.goto 11, 3) := by decide +kernel
theorem dX11_readInstruction_429 : decode cX11_readInstruction 429 = .ok (.aload_n 0, 1) := by decide +kernel
theorem dX11_readInstruction_430 : decode cX11_readInstruction 430 = .ok (.aload_n 0, 1) := by decide +kernel
theorem dX11_readInstruction_431 : decode cX11_readInstruction 431 = .ok (.getfield 77, 3) := by decide +kernel
theorem dX11_readInstruction_434 : decode cX11_readInstruction 434 = .ok (.invokevirtual 87, 3) := by decide +kernel
theorem dX11_readInstruction_437 : decode cX11_readInstruction 437 = .ok (.istore 5, 2) := by decide +kernel
theorem dX11_readInstruction_439 : decode cX11_readInstruction 439 = .ok (.iload 5, 2) := by decide +kernel
theorem dX11_readInstruction_441 : decode cX11_readInstruction 441 = .ok (.ifCond .eq 20, 3) := by decide +kernel
theorem dX11_readInstruction_444 : decode cX11_readInstruction 444 = .ok (.aload_n 0, 1) := by decide +kernel
theorem dX11_readInstruction_445 : decode cX11_readInstruction 445 = .ok (.getfield 18, 3) := by decide +kernel
theorem dX11_readInstruction_448 : decode cX11_readInstruction 448 = .ok (.iload_n 3, 1) := by decide +kernel
theorem dX11_readInstruction_449 : decode cX11_readInstruction 449 = .ok (.iconst 1, 1) := by decide +kernel
theorem dX11_readInstruction_450 : decode cX11_readInstruction 450 = .ok (.bastore, 1) := by decide +kernel
theorem dX11_readInstruction_451 : decode cX11_readInstruction 451 = .ok (.aload_n 0, 1) := by decide +kernel
theorem dX11_readInstruction_452 : decode cX11_readInstruction 452 = .ok (.dup, 1) := by decide +kernel
theorem dX11_readInstruction_453 : decode cX11_readInstruction 453 = .ok (.getfield 119, 3) := by decide +kernel
theorem dX11_readInstruction_456 : decode cX11_readInstruction 456 = .ok (.iconst 1, 1) := by decide +kernel
theorem dX11_readInstruction_457 : decode cX11_readInstruction 457 = .ok (.iadd, 1) := by decide +kernel
theorem dX11_readInstruction_458 : decode cX11_readInstruction 458 = .ok (.putfield 119, 3) := by decide +kernel
theorem dX11_readInstruction_461 : decode cX11_readInstruction 461 = .ok (.iload 5, 2) := by decide +kernel
theorem dX11_readInstruction_463 : decode cX11_readInstruction 463 = .ok (.ireturn, 1) := by decide +kernel
def wp_X11_readInstruction : List Cond := .code yX11_readInstruction cX11_readInstruction 8 (some .boolean) :: ((((((([.fieldLink RX11 18 "SteadyMachineModel$Image" "begins" "[Z", .fieldLink RX11 119 "SteadyMachineModel$Image" "instructions" "I", .fieldLink RX11 77 "SteadyMachineModel$Image" "place" "I", .fieldLink RX11 25 "SteadyMachineModel$Image" "fieldCounts" "[I", .fieldLink RX11 31 "SteadyMachineModel$Image" "slots" "[I", .fieldLink RX11 91 "SteadyMachineModel$Image" "classes" "I", .fieldLink RX11 52 "SteadyMachineModel$Image" "locals" "[I"] ++ (wsV RX11 87 RX11 yX11_bad wp_X11_bad)) ++ (wsV RX11 94 RX11 yX11_over wp_X11_over)) ++ (wsV RX11 112 RX11 yX11_overClass wp_X11_overClass)) ++ (wsV RX11 98 RX11 yX11_last wp_X11_last)) ++ (wsV RX11 83 RX11 yX11_here wp_X11_here)) ++ (va_wsS RX11 116 yX11_wide wp_X11_wide)) ++ wsX110)
theorem wq_X11_readInstruction : wp_X11_readInstruction.all goodWord = true := wa_c rfl (wa_a (wa_a (wa_a (wa_a (wa_a (wa_a (wa_a (by decide +kernel) (wa_V wq_X11_bad)) (wa_V wq_X11_over)) (wa_V wq_X11_overClass)) (wa_V wq_X11_last)) (wa_V wq_X11_here)) (wa_S wq_X11_wide)) uq_X11)
theorem wt_X11_readInstruction : GoodIn lw_tbl wp_X11_readInstruction := wm_c (List.mem_of_getElem? (i := 1251) (by decide +kernel)) rfl (wm_a (wm_a (wm_a (wm_a (wm_a (wm_a (wm_a (goodIn_r _ [1386, 1426, 1388, 1396, 1400, 1392, 1414] (by decide +kernel) (by decide +kernel)) (wm_a (goodIn_r _ [1220, 1222, 71, 148] (by decide +kernel) (by decide +kernel)) wt_X11_bad)) (wm_a (goodIn_r _ [1212, 1214, 69, 148] (by decide +kernel) (by decide +kernel)) wt_X11_over)) (wm_a (goodIn_r _ [1236, 1238, 75, 148] (by decide +kernel) (by decide +kernel)) wt_X11_overClass)) (wm_a (goodIn_r _ [1224, 1226, 72, 148] (by decide +kernel) (by decide +kernel)) wt_X11_last)) (wm_a (goodIn_r _ [1216, 1218, 70, 148] (by decide +kernel) (by decide +kernel)) wt_X11_here)) (wm_a (goodIn_r _ [1252, 1253, 148] (by decide +kernel) (by decide +kernel)) wt_X11_wide)) ut_X11)
theorem wg_X11_readInstruction_X11_bad_87 : GoodIn wp_X11_readInstruction (wsV RX11 87 RX11 yX11_bad wp_X11_bad) := goodIn_sub (fun w h => List.mem_cons_of_mem _ (List.mem_append_left _ (List.mem_append_left _ (List.mem_append_left _ (List.mem_append_left _ (List.mem_append_left _ (List.mem_append_left _ (List.mem_append_right _ h)))))))) (wa_V wq_X11_bad)
theorem wg_X11_readInstruction_X11_over_94 : GoodIn wp_X11_readInstruction (wsV RX11 94 RX11 yX11_over wp_X11_over) := goodIn_sub (fun w h => List.mem_cons_of_mem _ (List.mem_append_left _ (List.mem_append_left _ (List.mem_append_left _ (List.mem_append_left _ (List.mem_append_left _ (List.mem_append_right _ h))))))) (wa_V wq_X11_over)
theorem wg_X11_readInstruction_X11_overClass_112 : GoodIn wp_X11_readInstruction (wsV RX11 112 RX11 yX11_overClass wp_X11_overClass) := goodIn_sub (fun w h => List.mem_cons_of_mem _ (List.mem_append_left _ (List.mem_append_left _ (List.mem_append_left _ (List.mem_append_left _ (List.mem_append_right _ h)))))) (wa_V wq_X11_overClass)
theorem wg_X11_readInstruction_X11_last_98 : GoodIn wp_X11_readInstruction (wsV RX11 98 RX11 yX11_last wp_X11_last) := goodIn_sub (fun w h => List.mem_cons_of_mem _ (List.mem_append_left _ (List.mem_append_left _ (List.mem_append_left _ (List.mem_append_right _ h))))) (wa_V wq_X11_last)
theorem wg_X11_readInstruction_X11_here_83 : GoodIn wp_X11_readInstruction (wsV RX11 83 RX11 yX11_here wp_X11_here) := goodIn_sub (fun w h => List.mem_cons_of_mem _ (List.mem_append_left _ (List.mem_append_left _ (List.mem_append_right _ h)))) (wa_V wq_X11_here)
theorem wg_X11_readInstruction_X11_wide_116 : GoodIn wp_X11_readInstruction (va_wsS RX11 116 yX11_wide wp_X11_wide) := goodIn_sub (fun w h => List.mem_cons_of_mem _ (List.mem_append_left _ (List.mem_append_right _ h))) (wa_S wq_X11_wide)
theorem wi_X11_readInstruction_X11 : ∀ w ∈ wsX110, w ∈ wp_X11_readInstruction := fun w h => List.mem_cons_of_mem _ (List.mem_append_right _ h)
set_option maxHeartbeats 4000000 in
set_option maxRecDepth 100000 in
theorem c_X11_readInstruction (l : Launch) (D : va_G) (sz t0 : Nat) (σ : sm_S) (α : sm_A) (p1 : Int32) (p2 : Int32) (K : Int32 → sm_S → Prop) (hF : mp_X11_readInstruction σ p1 p2 K) : Met l yX11_readInstruction wp_X11_readInstruction { frames := 3, cells := 0, slots := 0, locals := 63 } (sm_P sm_wM sm_tM 40 D sz t0 σ α [.ref (α.1 0), .int p1, .int p2]) (va_Qi K (sm_B sm_wM D α) (sm_a α 40 sz)) 0 0 (sm_a α 40 sz) := by
  refine Met.ofW (cc := cX11_readInstruction) (maxL := 8) (ret := (some .boolean)) (by decide) rfl ?_
  intro p e s m args below meth c s₁ B hml hv
  obtain ⟨rfl, hsz, hP, hK, hD0, hE⟩ := hv
  have hx := B.exec
  have hb := B.bytes
  have hr := B.returns
  have hts := atoms_spec (ws := wp_X11_readInstruction) B.pre
  have hown : s.vm.findClass RX11 = some m.cls := findClass_of_methodNamed B.named
  have hlocks := B.notSynchronized
  subst hsz
  have hD : sm_D (sm_a α 40 s.heap.size) α 40 := hD0.own
  have hA : ∀ q : Nat, s.heap.size ≤ q → sm_a α 40 s.heap.size q := fun q h => Or.inr h
  generalize hAe : sm_a α 40 s.heap.size = A at hD hA hE ⊢
  have hS : va_S A s.heap s.heap [] := va_S.rf
  have in_X11 : ∀ w ∈ wsX110, w ∈ wp_X11_readInstruction := wi_X11_readInstruction_X11
  have k_0 := hts (.fieldLink RX11 18 "SteadyMachineModel$Image" "begins" "[Z") (by decide +kernel)
  have k_1 := hts (.fieldLink RX11 119 "SteadyMachineModel$Image" "instructions" "I") (by decide +kernel)
  have k_2 := hts (.fieldLink RX11 77 "SteadyMachineModel$Image" "place" "I") (by decide +kernel)
  have k_3 := hts (.fieldLink RX11 25 "SteadyMachineModel$Image" "fieldCounts" "[I") (by decide +kernel)
  have k_4 := hts (.fieldLink RX11 31 "SteadyMachineModel$Image" "slots" "[I") (by decide +kernel)
  have k_5 := hts (.fieldLink RX11 91 "SteadyMachineModel$Image" "classes" "I") (by decide +kernel)
  have k_6 := hts (.fieldLink RX11 52 "SteadyMachineModel$Image" "locals" "[I") (by decide +kernel)
  have hl := lv_entry ([.ref (α.1 0), .int p1, .int p2]) (n := 8) (Nat.le_of_ble_eq_true rfl)
  rw [lg_entry_eq]
  generalize (lg_sl ([.ref (α.1 0), .int p1, .int p2]) ++ List.replicate (8 - (lg_sl ([.ref (α.1 0), .int p1, .int p2])).length) Slot.unset).toArray = ls at hl ⊢
  have hl : lv_has ls 8 [(0, .ref (α.1 0)), (1, .int p1), (2, .int p2)] := hl
  have B461 : ∀ (σ : sm_S) (x5 : Int32), mp_X11_readInstruction_461 K σ x5 → sm_J p l e (headSpec wp_X11_readInstruction { frames := 3, cells := 0, slots := 0, locals := 63 }).room s m ([.ref (α.1 0), .int p1, .int p2] : List Value).toArray below meth c (MQ below (va_Qi K (sm_B sm_wM D α) A) ([.ref (α.1 0), .int p1, .int p2] : List Value).toArray s 0 0 A) D A 8 (sm_wM σ α) 461 [(5, .int x5)] [] := by
    intro σ x5 hF H locs ls hP hS hl
    unfold mp_X11_readInstruction_461 at hF
    refine lv_iload hx hb dX11_readInstruction_461 (lv_at hl 0 rfl) ?_
    obtain ⟨h1, hF⟩ := hF
    exact W.zret (v := x5) hx hb hr h1.1 (fun t ht hW => ⟨⟨x5, σ, rfl, hF, (by unfold sm_B; rw [ht]; exact hP)⟩, hS.F ht⟩) hS.2.2 dX11_readInstruction_463
  have B439 : ∀ (σ : sm_S) (x3 : Int32) (x5 : Int32), mp_X11_readInstruction_439 K σ x3 x5 → sm_J p l e (headSpec wp_X11_readInstruction { frames := 3, cells := 0, slots := 0, locals := 63 }).room s m ([.ref (α.1 0), .int p1, .int p2] : List Value).toArray below meth c (MQ below (va_Qi K (sm_B sm_wM D α) A) ([.ref (α.1 0), .int p1, .int p2] : List Value).toArray s 0 0 A) D A 8 (sm_wM σ α) 439 [(0, .ref (α.1 0)), (3, .int x3), (5, .int x5)] [] := by
    intro σ x3 x5 hF H locs ls hP hS hl
    unfold mp_X11_readInstruction_439 at hF
    refine lv_iload hx hb dX11_readInstruction_439 (lv_at hl 2 rfl) ?_
    refine lv_if_eq (tgt := 461) hx hb dX11_readInstruction_441 (by decide) (fun h2 => ?_) (fun h2 => ?_)
    · replace hF := hF.1 h2
      exact B461 σ x5 hF H locs ls hP hS (lv_sub hl [2] rfl)
    · replace hF := hF.2 h2
      refine lv_aload_n hx hb dX11_readInstruction_444 rfl (lv_at hl 0 rfl) ?_
      refine va_get (D := D) (ci := 11) (v := .ref (α.1 4)) (C := RX11) (T := TX11) (N := 28) hx hb hts in_X11 hown hK hP 0 (sm_gX11 σ α) rfl 3 (by decide) k_0 (fun _ h9 => h9) rfl dX11_readInstruction_445 ?_
      refine lv_iload_n hx hb dX11_readInstruction_448 rfl (lv_at hl 1 rfl) ?_
      refine lv_iconst (v := 1) hx hb dX11_readInstruction_449 (by decide) ?_
      obtain ⟨h3, hF⟩ := hF
      refine va_zast (n := (σ.2.2.1 4)) (f := (σ.2.2.2.1 4)) (x := 1) hx hb hK hP (hD.to (sm_wM_m _ _)) hS 4 2 (sm_aM4 σ α) (sm_yM4 α) h3 dX11_readInstruction_450 (fun H locs hP _ hS => ?_)
      rw [sm_rM4] at hP
      obtain ⟨σ4, eσ4⟩ : ∃ x : sm_S, x = sm_r σ 4 (upd (σ.2.2.2.1 4) x3.toNatClampNeg (vp_nar .boolean 1)) := ⟨_, rfl⟩
      replace hF := hF σ4 eσ4
      rw [← eσ4] at hP
      refine lv_aload_n hx hb dX11_readInstruction_451 rfl (lv_at hl 0 rfl) ?_
      refine lv_dup hx hb dX11_readInstruction_452 rfl ?_
      refine va_get (D := D) (ci := 11) (v := .int (σ4.1 7)) (C := RX11) (T := TX11) (N := 28) hx hb hts in_X11 hown hK hP 0 (sm_gX11 σ4 α) rfl 26 (by decide) k_1 (fun _ h9 => h9) rfl dX11_readInstruction_453 ?_
      refine lv_iconst (v := 1) hx hb dX11_readInstruction_456 (by decide) ?_
      refine lv_iadd hx hb dX11_readInstruction_457 ?_
      refine va_put (D := D) (ci := 11) (v := .int ((σ4.1 7) + 1)) (ty := .int) (C := RX11) (T := TX11) (N := 28) hx hb hts in_X11 tyX11 tyX11_ok nmX11 hown hK hP (hD.to (sm_wM_m _ _)) hS 0 (sm_gX11 σ4 α) rfl 26 (by decide) k_1 (fun _ h9 => h9) rfl (by decide +kernel) rfl rfl (Nat.le_of_ble_eq_true rfl) dX11_readInstruction_458 (fun H locs hP _ hS => ?_)
      rw [sm_iM7] at hP
      obtain ⟨σ5, eσ5⟩ : ∃ x : sm_S, x = sm_i σ4 7 ((σ4.1 7) + 1) := ⟨_, rfl⟩
      replace hF := hF σ5 eσ5
      rw [← eσ5] at hP
      exact B461 σ5 x5 hF H locs ls hP hS (lv_sub hl [2] rfl)
  have B437 : ∀ (σ : sm_S) (x3 : Int32) (y0 : Int32), mp_X11_readInstruction_437 K σ x3 y0 → sm_J p l e (headSpec wp_X11_readInstruction { frames := 3, cells := 0, slots := 0, locals := 63 }).room s m ([.ref (α.1 0), .int p1, .int p2] : List Value).toArray below meth c (MQ below (va_Qi K (sm_B sm_wM D α) A) ([.ref (α.1 0), .int p1, .int p2] : List Value).toArray s 0 0 A) D A 8 (sm_wM σ α) 437 [(0, .ref (α.1 0)), (3, .int x3)] [.int y0] := by
    intro σ x3 y0 hF H locs ls hP hS hl
    unfold mp_X11_readInstruction_437 at hF
    refine lv_istore (lv' := [(5, .int y0), (0, .ref (α.1 0)), (3, .int x3)]) hx hb dX11_readInstruction_437 hl (by decide) rfl (fun ls hl => ?_)
    exact B439 σ x3 y0 hF H locs ls hP hS (lv_sub hl [1, 2, 0] rfl)
  have B411 : ∀ (σ : sm_S) (x3 : Int32) (y0 : Int32), mp_X11_readInstruction_411 K σ x3 y0 → sm_J p l e (headSpec wp_X11_readInstruction { frames := 3, cells := 0, slots := 0, locals := 63 }).room s m ([.ref (α.1 0), .int p1, .int p2] : List Value).toArray below meth c (MQ below (va_Qi K (sm_B sm_wM D α) A) ([.ref (α.1 0), .int p1, .int p2] : List Value).toArray s 0 0 A) D A 8 (sm_wM σ α) 411 [(0, .ref (α.1 0)), (3, .int x3)] [.int y0] := by
    intro σ x3 y0 hF H locs ls hP hS hl
    unfold mp_X11_readInstruction_411 at hF
    refine lv_istore (lv' := [(7, .int y0), (0, .ref (α.1 0)), (3, .int x3)]) hx hb dX11_readInstruction_411 hl (by decide) rfl (fun ls hl => ?_)
    refine lv_iload hx hb dX11_readInstruction_413 (lv_at hl 0 rfl) ?_
    refine lv_if_eq (tgt := 429) hx hb dX11_readInstruction_415 (by decide) (fun h6 => ?_) (fun h6 => ?_)
    · replace hF := hF.1 h6
      refine lv_aload_n hx hb dX11_readInstruction_429 rfl (lv_at hl 1 rfl) ?_
      refine lv_aload_n hx hb dX11_readInstruction_430 rfl (lv_at hl 1 rfl) ?_
      refine va_get (D := D) (ci := 11) (v := .int (σ.1 2)) (C := RX11) (T := TX11) (N := 28) hx hb hts in_X11 hown hK hP 0 (sm_gX11 σ α) rfl 5 (by decide) k_2 (fun _ h9 => h9) rfl dX11_readInstruction_431 ?_
      refine sm_vi (As := [.int (σ.1 2)]) (rest := []) hP hK hD hE hS hA ⟨hx, hb, hml, hown, hts⟩ hl.1 (c_X11_bad l D H.size t0 σ α (σ.1 2) _ hF) (cwV 1 hts wg_X11_readInstruction_X11_bad_87 rfl rfl rfl (by decide +kernel) ⟨Nat.le_of_ble_eq_true rfl, Nat.le_of_ble_eq_true rfl⟩) (va_recv hK hP (ci := 11) (q0 := 0) rfl (sm_gX11 σ α)) rfl rfl (Nat.le_of_ble_eq_true rfl) dX11_readInstruction_434 ⟨Nat.zero_le _, Nat.zero_le _⟩ (fun r8 σ7 H locs hF hP hS => ?_)
      exact B437 σ7 x3 r8 hF H locs ls hP hS (lv_sub hl [1, 2] rfl)
    · replace hF := hF.2 h6
      refine lv_aload_n hx hb dX11_readInstruction_418 rfl (lv_at hl 1 rfl) ?_
      refine lv_iconst (v := 0) hx hb dX11_readInstruction_419 (by decide) ?_
      refine lv_sipush (v := 255) hx hb dX11_readInstruction_420 (by decide) ?_
      refine sm_vi (As := [.int 0, .int 255]) (rest := []) hP hK hD hE hS hA ⟨hx, hb, hml, hown, hts⟩ hl.1 (c_X11_over l D H.size t0 σ α 0 255 _ hF) (cwV 2 hts wg_X11_readInstruction_X11_over_94 rfl rfl rfl (by decide +kernel) ⟨Nat.le_of_ble_eq_true rfl, Nat.le_of_ble_eq_true rfl⟩) (va_recv hK hP (ci := 11) (q0 := 0) rfl (sm_gX11 σ α)) rfl rfl (Nat.le_of_ble_eq_true rfl) dX11_readInstruction_423 ⟨Nat.zero_le _, Nat.zero_le _⟩ (fun r10 σ9 H locs hF hP hS => ?_)
      refine lv_goto (tgt := 437) hx hb dX11_readInstruction_426 (by decide) ?_
      exact B437 σ9 x3 r10 hF H locs ls hP hS (lv_sub hl [1, 2] rfl)
  have B410 : ∀ (σ : sm_S) (x3 : Int32), mp_X11_readInstruction_410 K σ x3 → sm_J p l e (headSpec wp_X11_readInstruction { frames := 3, cells := 0, slots := 0, locals := 63 }).room s m ([.ref (α.1 0), .int p1, .int p2] : List Value).toArray below meth c (MQ below (va_Qi K (sm_B sm_wM D α) A) ([.ref (α.1 0), .int p1, .int p2] : List Value).toArray s 0 0 A) D A 8 (sm_wM σ α) 410 [(0, .ref (α.1 0)), (3, .int x3)] [] := by
    intro σ x3 hF H locs ls hP hS hl
    unfold mp_X11_readInstruction_410 at hF
    refine lv_iconst (v := 0) hx hb dX11_readInstruction_410 (by decide) ?_
    exact B411 σ x3 0 hF H locs ls hP hS (lv_sub hl [0, 1] rfl)
  have B308 : ∀ (σ : sm_S) (x3 : Int32) (y0 : Int32), mp_X11_readInstruction_308 K σ x3 y0 → sm_J p l e (headSpec wp_X11_readInstruction { frames := 3, cells := 0, slots := 0, locals := 63 }).room s m ([.ref (α.1 0), .int p1, .int p2] : List Value).toArray below meth c (MQ below (va_Qi K (sm_B sm_wM D α) A) ([.ref (α.1 0), .int p1, .int p2] : List Value).toArray s 0 0 A) D A 8 (sm_wM σ α) 308 [(0, .ref (α.1 0)), (3, .int x3)] [.int y0] := by
    intro σ x3 y0 hF H locs ls hP hS hl
    unfold mp_X11_readInstruction_308 at hF
    refine lv_istore (lv' := [(5, .int y0), (0, .ref (α.1 0)), (3, .int x3)]) hx hb dX11_readInstruction_308 hl (by decide) rfl (fun ls hl => ?_)
    refine lv_goto (tgt := 439) hx hb dX11_readInstruction_310 (by decide) ?_
    exact B439 σ x3 y0 hF H locs ls hP hS (lv_sub hl [1, 2, 0] rfl)
  have B307 : ∀ (σ : sm_S) (x3 : Int32), mp_X11_readInstruction_307 K σ x3 → sm_J p l e (headSpec wp_X11_readInstruction { frames := 3, cells := 0, slots := 0, locals := 63 }).room s m ([.ref (α.1 0), .int p1, .int p2] : List Value).toArray below meth c (MQ below (va_Qi K (sm_B sm_wM D α) A) ([.ref (α.1 0), .int p1, .int p2] : List Value).toArray s 0 0 A) D A 8 (sm_wM σ α) 307 [(0, .ref (α.1 0)), (3, .int x3)] [] := by
    intro σ x3 hF H locs ls hP hS hl
    unfold mp_X11_readInstruction_307 at hF
    refine lv_iconst (v := 0) hx hb dX11_readInstruction_307 (by decide) ?_
    exact B308 σ x3 0 hF H locs ls hP hS (lv_sub hl [0, 1] rfl)
  have B277 : ∀ (σ : sm_S) (x3 : Int32), mp_X11_readInstruction_277 K σ x3 → sm_J p l e (headSpec wp_X11_readInstruction { frames := 3, cells := 0, slots := 0, locals := 63 }).room s m ([.ref (α.1 0), .int p1, .int p2] : List Value).toArray below meth c (MQ below (va_Qi K (sm_B sm_wM D α) A) ([.ref (α.1 0), .int p1, .int p2] : List Value).toArray s 0 0 A) D A 8 (sm_wM σ α) 277 [(0, .ref (α.1 0)), (3, .int x3)] [] := by
    intro σ x3 hF H locs ls hP hS hl
    unfold mp_X11_readInstruction_277 at hF
    refine lv_aload_n hx hb dX11_readInstruction_277 rfl (lv_at hl 0 rfl) ?_
    refine sm_vi (As := []) (rest := []) hP hK hD hE hS hA ⟨hx, hb, hml, hown, hts⟩ hl.1 (c_X11_overClass l D H.size t0 σ α _ hF) (cwV 0 hts wg_X11_readInstruction_X11_overClass_112 rfl rfl rfl (by decide +kernel) ⟨Nat.le_of_ble_eq_true rfl, Nat.le_of_ble_eq_true rfl⟩) (va_recv hK hP (ci := 11) (q0 := 0) rfl (sm_gX11 σ α)) rfl rfl (Nat.le_of_ble_eq_true rfl) dX11_readInstruction_278 ⟨Nat.zero_le _, Nat.zero_le _⟩ (fun r12 σ11 H locs hF hP hS => ?_)
    refine lv_if_eq (tgt := 307) hx hb dX11_readInstruction_281 (by decide) (fun h13 => ?_) (fun h13 => ?_)
    · replace hF := hF.1 h13
      exact B307 σ11 x3 hF H locs ls hP hS (lv_sub hl [0, 1] rfl)
    · replace hF := hF.2 h13
      refine lv_aload_n hx hb dX11_readInstruction_284 rfl (lv_at hl 0 rfl) ?_
      refine lv_iconst (v := 0) hx hb dX11_readInstruction_285 (by decide) ?_
      refine lv_aload_n hx hb dX11_readInstruction_286 rfl (lv_at hl 0 rfl) ?_
      refine va_get (D := D) (ci := 11) (v := .ref (α.1 6)) (C := RX11) (T := TX11) (N := 28) hx hb hts in_X11 hown hK hP 0 (sm_gX11 σ11 α) rfl 10 (by decide) k_3 (fun _ h9 => h9) rfl dX11_readInstruction_287 ?_
      refine lv_aload_n hx hb dX11_readInstruction_290 rfl (lv_at hl 0 rfl) ?_
      refine sm_vi (As := []) (rest := [.ref (α.1 6), .int 0, .ref (α.1 0)]) hP hK hD hE hS hA ⟨hx, hb, hml, hown, hts⟩ hl.1 (c_X11_last l D H.size t0 σ11 α _ hF) (cwV 0 hts wg_X11_readInstruction_X11_last_98 rfl rfl rfl (by decide +kernel) ⟨Nat.le_of_ble_eq_true rfl, Nat.le_of_ble_eq_true rfl⟩) (va_recv hK hP (ci := 11) (q0 := 0) rfl (sm_gX11 σ11 α)) rfl rfl (Nat.le_of_ble_eq_true rfl) dX11_readInstruction_291 ⟨Nat.zero_le _, Nat.zero_le _⟩ (fun r15 σ14 H locs hF hP hS => ?_)
      obtain ⟨h16, hF⟩ := hF
      refine va_iald (n := (σ14.2.2.1 6)) (f := (σ14.2.2.2.1 6)) hx hb hK hP 6 4 (sm_aM6 σ14 α) (sm_yM6 α) h16 dX11_readInstruction_294 ?_
      refine lv_iconst (v := 1) hx hb dX11_readInstruction_295 (by decide) ?_
      refine lv_isub hx hb dX11_readInstruction_296 ?_
      refine sm_vi (As := [.int 0, .int (((σ14.2.2.2.1 6) r15.toNatClampNeg) - 1)]) (rest := []) hP hK hD hE hS hA ⟨hx, hb, hml, hown, hts⟩ hl.1 (c_X11_over l D H.size t0 σ14 α 0 (((σ14.2.2.2.1 6) r15.toNatClampNeg) - 1) _ hF) (cwV 2 hts wg_X11_readInstruction_X11_over_94 rfl rfl rfl (by decide +kernel) ⟨Nat.le_of_ble_eq_true rfl, Nat.le_of_ble_eq_true rfl⟩) (va_recv hK hP (ci := 11) (q0 := 0) rfl (sm_gX11 σ14 α)) rfl rfl (Nat.le_of_ble_eq_true rfl) dX11_readInstruction_297 ⟨Nat.zero_le _, Nat.zero_le _⟩ (fun r18 σ17 H locs hF hP hS => ?_)
      refine lv_if_eq (tgt := 307) hx hb dX11_readInstruction_300 (by decide) (fun h19 => ?_) (fun h19 => ?_)
      · replace hF := hF.1 h19
        exact B307 σ17 x3 hF H locs ls hP hS (lv_sub hl [0, 1] rfl)
      · replace hF := hF.2 h19
        refine lv_iconst (v := 1) hx hb dX11_readInstruction_303 (by decide) ?_
        refine lv_goto (tgt := 308) hx hb dX11_readInstruction_304 (by decide) ?_
        exact B308 σ17 x3 1 hF H locs ls hP hS (lv_sub hl [0, 1] rfl)
  have B254 : ∀ (σ : sm_S) (x3 : Int32), mp_X11_readInstruction_254 K σ x3 → sm_J p l e (headSpec wp_X11_readInstruction { frames := 3, cells := 0, slots := 0, locals := 63 }).room s m ([.ref (α.1 0), .int p1, .int p2] : List Value).toArray below meth c (MQ below (va_Qi K (sm_B sm_wM D α) A) ([.ref (α.1 0), .int p1, .int p2] : List Value).toArray s 0 0 A) D A 8 (sm_wM σ α) 254 [(0, .ref (α.1 0)), (3, .int x3)] [] := by
    intro σ x3 hF H locs ls hP hS hl
    unfold mp_X11_readInstruction_254 at hF
    refine lv_aload_n hx hb dX11_readInstruction_254 rfl (lv_at hl 0 rfl) ?_
    refine sm_vi (As := []) (rest := []) hP hK hD hE hS hA ⟨hx, hb, hml, hown, hts⟩ hl.1 (c_X11_overClass l D H.size t0 σ α _ hF) (cwV 0 hts wg_X11_readInstruction_X11_overClass_112 rfl rfl rfl (by decide +kernel) ⟨Nat.le_of_ble_eq_true rfl, Nat.le_of_ble_eq_true rfl⟩) (va_recv hK hP (ci := 11) (q0 := 0) rfl (sm_gX11 σ α)) rfl rfl (Nat.le_of_ble_eq_true rfl) dX11_readInstruction_255 ⟨Nat.zero_le _, Nat.zero_le _⟩ (fun r21 σ20 H locs hF hP hS => ?_)
    refine lv_istore (lv' := [(5, .int r21), (0, .ref (α.1 0)), (3, .int x3)]) hx hb dX11_readInstruction_258 hl (by decide) rfl (fun ls hl => ?_)
    refine lv_goto (tgt := 439) hx hb dX11_readInstruction_260 (by decide) ?_
    exact B439 σ20 x3 r21 hF H locs ls hP hS (lv_sub hl [1, 2, 0] rfl)
  have B233 : ∀ (σ : sm_S) (x3 : Int32) (x4 : Int32) (x5 : Int32), mp_X11_readInstruction_233 K σ x3 x4 x5 → sm_J p l e (headSpec wp_X11_readInstruction { frames := 3, cells := 0, slots := 0, locals := 63 }).room s m ([.ref (α.1 0), .int p1, .int p2] : List Value).toArray below meth c (MQ below (va_Qi K (sm_B sm_wM D α) A) ([.ref (α.1 0), .int p1, .int p2] : List Value).toArray s 0 0 A) D A 8 (sm_wM σ α) 233 [(0, .ref (α.1 0)), (3, .int x3), (4, .int x4), (5, .int x5)] [] := by
    intro σ x3 x4 x5 hF H locs ls hP hS hl
    unfold mp_X11_readInstruction_233 at hF
    refine lv_iload hx hb dX11_readInstruction_233 (lv_at hl 2 rfl) ?_
    refine lv_bipush (v := 26) hx hb dX11_readInstruction_235 (by decide) ?_
    refine lv_icmp_eq (tgt := 254) hx hb dX11_readInstruction_237 (by decide) (fun h22 => ?_) (fun h22 => ?_)
    · replace hF := hF.1 h22
      exact B254 σ x3 hF H locs ls hP hS (lv_sub hl [0, 1] rfl)
    · replace hF := hF.2 h22
      refine lv_iload hx hb dX11_readInstruction_240 (lv_at hl 2 rfl) ?_
      refine lv_bipush (v := 29) hx hb dX11_readInstruction_242 (by decide) ?_
      refine lv_icmp_eq (tgt := 254) hx hb dX11_readInstruction_244 (by decide) (fun h23 => ?_) (fun h23 => ?_)
      · replace hF := hF.1 h23
        exact B254 σ x3 hF H locs ls hP hS (lv_sub hl [0, 1] rfl)
      · replace hF := hF.2 h23
        refine lv_iload hx hb dX11_readInstruction_247 (lv_at hl 2 rfl) ?_
        refine lv_bipush (v := 30) hx hb dX11_readInstruction_249 (by decide) ?_
        refine lv_icmp_ne (tgt := 263) hx hb dX11_readInstruction_251 (by decide) (fun h24 => ?_) (fun h24 => ?_)
        · replace hF := hF.1 h24
          refine lv_iload hx hb dX11_readInstruction_263 (lv_at hl 2 rfl) ?_
          refine lv_bipush (v := 27) hx hb dX11_readInstruction_265 (by decide) ?_
          refine lv_icmp_eq (tgt := 277) hx hb dX11_readInstruction_267 (by decide) (fun h25 => ?_) (fun h25 => ?_)
          · replace hF := hF.1 h25
            exact B277 σ x3 hF H locs ls hP hS (lv_sub hl [0, 1] rfl)
          · replace hF := hF.2 h25
            refine lv_iload hx hb dX11_readInstruction_270 (lv_at hl 2 rfl) ?_
            refine lv_bipush (v := 28) hx hb dX11_readInstruction_272 (by decide) ?_
            refine lv_icmp_ne (tgt := 313) hx hb dX11_readInstruction_274 (by decide) (fun h26 => ?_) (fun h26 => ?_)
            · replace hF := hF.1 h26
              refine lv_iload hx hb dX11_readInstruction_313 (lv_at hl 2 rfl) ?_
              refine lv_bipush (v := 31) hx hb dX11_readInstruction_315 (by decide) ?_
              refine lv_icmp_ne (tgt := 334) hx hb dX11_readInstruction_317 (by decide) (fun h27 => ?_) (fun h27 => ?_)
              · replace hF := hF.1 h27
                refine lv_iload hx hb dX11_readInstruction_334 (lv_at hl 2 rfl) ?_
                refine lv_bipush (v := 35) hx hb dX11_readInstruction_336 (by decide) ?_
                refine lv_icmp_ne (tgt := 354) hx hb dX11_readInstruction_338 (by decide) (fun h28 => ?_) (fun h28 => ?_)
                · replace hF := hF.1 h28
                  refine lv_iload hx hb dX11_readInstruction_354 (lv_at hl 2 rfl) ?_
                  refine lv_bipush (v := 36) hx hb dX11_readInstruction_356 (by decide) ?_
                  refine lv_icmp_ne (tgt := 439) hx hb dX11_readInstruction_358 (by decide) (fun h29 => ?_) (fun h29 => ?_)
                  · replace hF := hF.1 h29
                    exact B439 σ x3 x5 hF H locs ls hP hS (lv_sub hl [0, 1, 3] rfl)
                  · replace hF := hF.2 h29
                    refine lv_aload_n hx hb dX11_readInstruction_361 rfl (lv_at hl 0 rfl) ?_
                    refine sm_vi (As := []) (rest := []) hP hK hD hE hS hA ⟨hx, hb, hml, hown, hts⟩ hl.1 (c_X11_overClass l D H.size t0 σ α _ hF) (cwV 0 hts wg_X11_readInstruction_X11_overClass_112 rfl rfl rfl (by decide +kernel) ⟨Nat.le_of_ble_eq_true rfl, Nat.le_of_ble_eq_true rfl⟩) (va_recv hK hP (ci := 11) (q0 := 0) rfl (sm_gX11 σ α)) rfl rfl (Nat.le_of_ble_eq_true rfl) dX11_readInstruction_362 ⟨Nat.zero_le _, Nat.zero_le _⟩ (fun r31 σ30 H locs hF hP hS => ?_)
                    refine lv_istore (lv' := [(5, .int r31), (0, .ref (α.1 0)), (3, .int x3), (4, .int x4)]) hx hb dX11_readInstruction_365 hl (by decide) rfl (fun ls hl => ?_)
                    refine lv_iload hx hb dX11_readInstruction_367 (lv_at hl 0 rfl) ?_
                    refine lv_if_eq (tgt := 439) hx hb dX11_readInstruction_369 (by decide) (fun h32 => ?_) (fun h32 => ?_)
                    · replace hF := hF.1 h32
                      exact B439 σ30 x3 r31 hF H locs ls hP hS (lv_sub hl [1, 2, 0] rfl)
                    · replace hF := hF.2 h32
                      refine lv_aload_n hx hb dX11_readInstruction_372 rfl (lv_at hl 1 rfl) ?_
                      refine sm_vi (As := []) (rest := []) hP hK hD hE hS hA ⟨hx, hb, hml, hown, hts⟩ hl.1 (c_X11_last l D H.size t0 σ30 α _ hF) (cwV 0 hts wg_X11_readInstruction_X11_last_98 rfl rfl rfl (by decide +kernel) ⟨Nat.le_of_ble_eq_true rfl, Nat.le_of_ble_eq_true rfl⟩) (va_recv hK hP (ci := 11) (q0 := 0) rfl (sm_gX11 σ30 α)) rfl rfl (Nat.le_of_ble_eq_true rfl) dX11_readInstruction_373 ⟨Nat.zero_le _, Nat.zero_le _⟩ (fun r34 σ33 H locs hF hP hS => ?_)
                      refine lv_istore (lv' := [(6, .int r34), (5, .int r31), (0, .ref (α.1 0)), (3, .int x3), (4, .int x4)]) hx hb dX11_readInstruction_376 hl (by decide) rfl (fun ls hl => ?_)
                      refine lv_aload_n hx hb dX11_readInstruction_378 rfl (lv_at hl 2 rfl) ?_
                      refine sm_vi (As := []) (rest := []) hP hK hD hE hS hA ⟨hx, hb, hml, hown, hts⟩ hl.1 (c_X11_here l D H.size t0 σ33 α _ hF) (cwV 0 hts wg_X11_readInstruction_X11_here_83 rfl rfl rfl (by decide +kernel) ⟨Nat.le_of_ble_eq_true rfl, Nat.le_of_ble_eq_true rfl⟩) (va_recv hK hP (ci := 11) (q0 := 0) rfl (sm_gX11 σ33 α)) rfl rfl (Nat.le_of_ble_eq_true rfl) dX11_readInstruction_379 ⟨Nat.zero_le _, Nat.zero_le _⟩ (fun r36 σ35 H locs hF hP hS => ?_)
                      refine lv_bipush (v := 16) hx hb dX11_readInstruction_382 (by decide) ?_
                      refine lv_icmp_ge (tgt := 410) hx hb dX11_readInstruction_384 (by decide) (fun h37 => ?_) (fun h37 => ?_)
                      · replace hF := hF.1 h37
                        exact B410 σ35 x3 hF H locs ls hP hS (lv_sub hl [2, 3] rfl)
                      · replace hF := hF.2 h37
                        refine lv_aload_n hx hb dX11_readInstruction_387 rfl (lv_at hl 2 rfl) ?_
                        refine va_get (D := D) (ci := 11) (v := .ref (α.1 8)) (C := RX11) (T := TX11) (N := 28) hx hb hts in_X11 hown hK hP 0 (sm_gX11 σ35 α) rfl 12 (by decide) k_4 (fun _ h9 => h9) rfl dX11_readInstruction_388 ?_
                        refine lv_bipush (v := 16) hx hb dX11_readInstruction_391 (by decide) ?_
                        refine lv_iload hx hb dX11_readInstruction_393 (lv_at hl 0 rfl) ?_
                        refine lv_imul hx hb dX11_readInstruction_395 ?_
                        refine lv_aload_n hx hb dX11_readInstruction_396 rfl (lv_at hl 2 rfl) ?_
                        refine sm_vi (As := []) (rest := [.int (16 * r34), .ref (α.1 8)]) hP hK hD hE hS hA ⟨hx, hb, hml, hown, hts⟩ hl.1 (c_X11_here l D H.size t0 σ35 α _ hF) (cwV 0 hts wg_X11_readInstruction_X11_here_83 rfl rfl rfl (by decide +kernel) ⟨Nat.le_of_ble_eq_true rfl, Nat.le_of_ble_eq_true rfl⟩) (va_recv hK hP (ci := 11) (q0 := 0) rfl (sm_gX11 σ35 α)) rfl rfl (Nat.le_of_ble_eq_true rfl) dX11_readInstruction_397 ⟨Nat.zero_le _, Nat.zero_le _⟩ (fun r39 σ38 H locs hF hP hS => ?_)
                        refine lv_iadd hx hb dX11_readInstruction_400 ?_
                        obtain ⟨h40, hF⟩ := hF
                        refine va_iald (n := (σ38.2.2.1 8)) (f := (σ38.2.2.2.1 8)) hx hb hK hP 8 6 (sm_aM8 σ38 α) (sm_yM8 α) h40 dX11_readInstruction_401 ?_
                        refine lv_iconst (v := -1) hx hb dX11_readInstruction_402 (by decide) ?_
                        refine lv_icmp_eq (tgt := 410) hx hb dX11_readInstruction_403 (by decide) (fun h41 => ?_) (fun h41 => ?_)
                        · replace hF := hF.1 h41
                          exact B410 σ38 x3 hF H locs ls hP hS (lv_sub hl [2, 3] rfl)
                        · replace hF := hF.2 h41
                          refine lv_iconst (v := 1) hx hb dX11_readInstruction_406 (by decide) ?_
                          refine lv_goto (tgt := 411) hx hb dX11_readInstruction_407 (by decide) ?_
                          exact B411 σ38 x3 1 hF H locs ls hP hS (lv_sub hl [2, 3] rfl)
                · replace hF := hF.2 h28
                  refine lv_aload_n hx hb dX11_readInstruction_341 rfl (lv_at hl 0 rfl) ?_
                  refine lv_iconst (v := 0) hx hb dX11_readInstruction_342 (by decide) ?_
                  refine lv_sipush (v := 255) hx hb dX11_readInstruction_343 (by decide) ?_
                  refine sm_vi (As := [.int 0, .int 255]) (rest := []) hP hK hD hE hS hA ⟨hx, hb, hml, hown, hts⟩ hl.1 (c_X11_over l D H.size t0 σ α 0 255 _ hF) (cwV 2 hts wg_X11_readInstruction_X11_over_94 rfl rfl rfl (by decide +kernel) ⟨Nat.le_of_ble_eq_true rfl, Nat.le_of_ble_eq_true rfl⟩) (va_recv hK hP (ci := 11) (q0 := 0) rfl (sm_gX11 σ α)) rfl rfl (Nat.le_of_ble_eq_true rfl) dX11_readInstruction_346 ⟨Nat.zero_le _, Nat.zero_le _⟩ (fun r43 σ42 H locs hF hP hS => ?_)
                  refine lv_istore (lv' := [(5, .int r43), (0, .ref (α.1 0)), (3, .int x3), (4, .int x4)]) hx hb dX11_readInstruction_349 hl (by decide) rfl (fun ls hl => ?_)
                  refine lv_goto (tgt := 439) hx hb dX11_readInstruction_351 (by decide) ?_
                  exact B439 σ42 x3 r43 hF H locs ls hP hS (lv_sub hl [1, 2, 0] rfl)
              · replace hF := hF.2 h27
                refine lv_aload_n hx hb dX11_readInstruction_320 rfl (lv_at hl 0 rfl) ?_
                refine lv_iconst (v := 0) hx hb dX11_readInstruction_321 (by decide) ?_
                refine lv_aload_n hx hb dX11_readInstruction_322 rfl (lv_at hl 0 rfl) ?_
                refine va_get (D := D) (ci := 11) (v := .int (σ.1 5)) (C := RX11) (T := TX11) (N := 28) hx hb hts in_X11 hown hK hP 0 (sm_gX11 σ α) rfl 8 (by decide) k_5 (fun _ h9 => h9) rfl dX11_readInstruction_323 ?_
                refine sm_vi (As := [.int 0, .int (σ.1 5)]) (rest := []) hP hK hD hE hS hA ⟨hx, hb, hml, hown, hts⟩ hl.1 (c_X11_over l D H.size t0 σ α 0 (σ.1 5) _ hF) (cwV 2 hts wg_X11_readInstruction_X11_over_94 rfl rfl rfl (by decide +kernel) ⟨Nat.le_of_ble_eq_true rfl, Nat.le_of_ble_eq_true rfl⟩) (va_recv hK hP (ci := 11) (q0 := 0) rfl (sm_gX11 σ α)) rfl rfl (Nat.le_of_ble_eq_true rfl) dX11_readInstruction_326 ⟨Nat.zero_le _, Nat.zero_le _⟩ (fun r45 σ44 H locs hF hP hS => ?_)
                refine lv_istore (lv' := [(5, .int r45), (0, .ref (α.1 0)), (3, .int x3), (4, .int x4)]) hx hb dX11_readInstruction_329 hl (by decide) rfl (fun ls hl => ?_)
                refine lv_goto (tgt := 439) hx hb dX11_readInstruction_331 (by decide) ?_
                exact B439 σ44 x3 r45 hF H locs ls hP hS (lv_sub hl [1, 2, 0] rfl)
            · replace hF := hF.2 h26
              exact B277 σ x3 hF H locs ls hP hS (lv_sub hl [0, 1] rfl)
        · replace hF := hF.2 h24
          exact B254 σ x3 hF H locs ls hP hS (lv_sub hl [0, 1] rfl)
  have B228 : ∀ (σ : sm_S) (x3 : Int32) (y0 : Int32), mp_X11_readInstruction_228 K σ x3 y0 → sm_J p l e (headSpec wp_X11_readInstruction { frames := 3, cells := 0, slots := 0, locals := 63 }).room s m ([.ref (α.1 0), .int p1, .int p2] : List Value).toArray below meth c (MQ below (va_Qi K (sm_B sm_wM D α) A) ([.ref (α.1 0), .int p1, .int p2] : List Value).toArray s 0 0 A) D A 8 (sm_wM σ α) 228 [(0, .ref (α.1 0)), (3, .int x3)] [.int y0] := by
    intro σ x3 y0 hF H locs ls hP hS hl
    unfold mp_X11_readInstruction_228 at hF
    refine lv_istore (lv' := [(5, .int y0), (0, .ref (α.1 0)), (3, .int x3)]) hx hb dX11_readInstruction_228 hl (by decide) rfl (fun ls hl => ?_)
    refine lv_goto (tgt := 439) hx hb dX11_readInstruction_230 (by decide) ?_
    exact B439 σ x3 y0 hF H locs ls hP hS (lv_sub hl [1, 2, 0] rfl)
  have B227 : ∀ (σ : sm_S) (x3 : Int32), mp_X11_readInstruction_227 K σ x3 → sm_J p l e (headSpec wp_X11_readInstruction { frames := 3, cells := 0, slots := 0, locals := 63 }).room s m ([.ref (α.1 0), .int p1, .int p2] : List Value).toArray below meth c (MQ below (va_Qi K (sm_B sm_wM D α) A) ([.ref (α.1 0), .int p1, .int p2] : List Value).toArray s 0 0 A) D A 8 (sm_wM σ α) 227 [(0, .ref (α.1 0)), (3, .int x3)] [] := by
    intro σ x3 hF H locs ls hP hS hl
    unfold mp_X11_readInstruction_227 at hF
    refine lv_iconst (v := 0) hx hb dX11_readInstruction_227 (by decide) ?_
    exact B228 σ x3 0 hF H locs ls hP hS (lv_sub hl [0, 1] rfl)
  have B182 : ∀ (σ : sm_S) (x3 : Int32) (y0 : Int32), mp_X11_readInstruction_182 K σ x3 y0 → sm_J p l e (headSpec wp_X11_readInstruction { frames := 3, cells := 0, slots := 0, locals := 63 }).room s m ([.ref (α.1 0), .int p1, .int p2] : List Value).toArray below meth c (MQ below (va_Qi K (sm_B sm_wM D α) A) ([.ref (α.1 0), .int p1, .int p2] : List Value).toArray s 0 0 A) D A 8 (sm_wM σ α) 182 [(0, .ref (α.1 0)), (3, .int x3)] [.int y0] := by
    intro σ x3 y0 hF H locs ls hP hS hl
    unfold mp_X11_readInstruction_182 at hF
    refine lv_istore (lv' := [(5, .int y0), (0, .ref (α.1 0)), (3, .int x3)]) hx hb dX11_readInstruction_182 hl (by decide) rfl (fun ls hl => ?_)
    refine lv_goto (tgt := 439) hx hb dX11_readInstruction_184 (by decide) ?_
    exact B439 σ x3 y0 hF H locs ls hP hS (lv_sub hl [1, 2, 0] rfl)
  have B181 : ∀ (σ : sm_S) (x3 : Int32), mp_X11_readInstruction_181 K σ x3 → sm_J p l e (headSpec wp_X11_readInstruction { frames := 3, cells := 0, slots := 0, locals := 63 }).room s m ([.ref (α.1 0), .int p1, .int p2] : List Value).toArray below meth c (MQ below (va_Qi K (sm_B sm_wM D α) A) ([.ref (α.1 0), .int p1, .int p2] : List Value).toArray s 0 0 A) D A 8 (sm_wM σ α) 181 [(0, .ref (α.1 0)), (3, .int x3)] [] := by
    intro σ x3 hF H locs ls hP hS hl
    unfold mp_X11_readInstruction_181 at hF
    refine lv_iconst (v := 0) hx hb dX11_readInstruction_181 (by decide) ?_
    exact B182 σ x3 0 hF H locs ls hP hS (lv_sub hl [0, 1] rfl)
  have B146 : ∀ (σ : sm_S) (x3 : Int32), mp_X11_readInstruction_146 K σ x3 → sm_J p l e (headSpec wp_X11_readInstruction { frames := 3, cells := 0, slots := 0, locals := 63 }).room s m ([.ref (α.1 0), .int p1, .int p2] : List Value).toArray below meth c (MQ below (va_Qi K (sm_B sm_wM D α) A) ([.ref (α.1 0), .int p1, .int p2] : List Value).toArray s 0 0 A) D A 8 (sm_wM σ α) 146 [(0, .ref (α.1 0)), (3, .int x3)] [] := by
    intro σ x3 hF H locs ls hP hS hl
    unfold mp_X11_readInstruction_146 at hF
    refine lv_aload_n hx hb dX11_readInstruction_146 rfl (lv_at hl 0 rfl) ?_
    refine lv_iconst (v := 0) hx hb dX11_readInstruction_147 (by decide) ?_
    refine lv_iconst (v := 5) hx hb dX11_readInstruction_148 (by decide) ?_
    refine sm_vi (As := [.int 0, .int 5]) (rest := []) hP hK hD hE hS hA ⟨hx, hb, hml, hown, hts⟩ hl.1 (c_X11_over l D H.size t0 σ α 0 5 _ hF) (cwV 2 hts wg_X11_readInstruction_X11_over_94 rfl rfl rfl (by decide +kernel) ⟨Nat.le_of_ble_eq_true rfl, Nat.le_of_ble_eq_true rfl⟩) (va_recv hK hP (ci := 11) (q0 := 0) rfl (sm_gX11 σ α)) rfl rfl (Nat.le_of_ble_eq_true rfl) dX11_readInstruction_149 ⟨Nat.zero_le _, Nat.zero_le _⟩ (fun r47 σ46 H locs hF hP hS => ?_)
    refine lv_if_eq (tgt := 181) hx hb dX11_readInstruction_152 (by decide) (fun h48 => ?_) (fun h48 => ?_)
    · replace hF := hF.1 h48
      exact B181 σ46 x3 hF H locs ls hP hS (lv_sub hl [0, 1] rfl)
    · replace hF := hF.2 h48
      refine lv_aload_n hx hb dX11_readInstruction_155 rfl (lv_at hl 0 rfl) ?_
      refine lv_iconst (v := 0) hx hb dX11_readInstruction_156 (by decide) ?_
      refine lv_sipush (v := 255) hx hb dX11_readInstruction_157 (by decide) ?_
      refine sm_vi (As := [.int 0, .int 255]) (rest := []) hP hK hD hE hS hA ⟨hx, hb, hml, hown, hts⟩ hl.1 (c_X11_over l D H.size t0 σ46 α 0 255 _ hF) (cwV 2 hts wg_X11_readInstruction_X11_over_94 rfl rfl rfl (by decide +kernel) ⟨Nat.le_of_ble_eq_true rfl, Nat.le_of_ble_eq_true rfl⟩) (va_recv hK hP (ci := 11) (q0 := 0) rfl (sm_gX11 σ46 α)) rfl rfl (Nat.le_of_ble_eq_true rfl) dX11_readInstruction_160 ⟨Nat.zero_le _, Nat.zero_le _⟩ (fun r50 σ49 H locs hF hP hS => ?_)
      refine lv_if_eq (tgt := 181) hx hb dX11_readInstruction_163 (by decide) (fun h51 => ?_) (fun h51 => ?_)
      · replace hF := hF.1 h51
        exact B181 σ49 x3 hF H locs ls hP hS (lv_sub hl [0, 1] rfl)
      · replace hF := hF.2 h51
        refine lv_aload_n hx hb dX11_readInstruction_166 rfl (lv_at hl 0 rfl) ?_
        refine lv_iconst (v := 0) hx hb dX11_readInstruction_167 (by decide) ?_
        refine lv_sipush (v := 255) hx hb dX11_readInstruction_168 (by decide) ?_
        refine sm_vi (As := [.int 0, .int 255]) (rest := []) hP hK hD hE hS hA ⟨hx, hb, hml, hown, hts⟩ hl.1 (c_X11_over l D H.size t0 σ49 α 0 255 _ hF) (cwV 2 hts wg_X11_readInstruction_X11_over_94 rfl rfl rfl (by decide +kernel) ⟨Nat.le_of_ble_eq_true rfl, Nat.le_of_ble_eq_true rfl⟩) (va_recv hK hP (ci := 11) (q0 := 0) rfl (sm_gX11 σ49 α)) rfl rfl (Nat.le_of_ble_eq_true rfl) dX11_readInstruction_171 ⟨Nat.zero_le _, Nat.zero_le _⟩ (fun r53 σ52 H locs hF hP hS => ?_)
        refine lv_if_eq (tgt := 181) hx hb dX11_readInstruction_174 (by decide) (fun h54 => ?_) (fun h54 => ?_)
        · replace hF := hF.1 h54
          exact B181 σ52 x3 hF H locs ls hP hS (lv_sub hl [0, 1] rfl)
        · replace hF := hF.2 h54
          refine lv_iconst (v := 1) hx hb dX11_readInstruction_177 (by decide) ?_
          refine lv_goto (tgt := 182) hx hb dX11_readInstruction_178 (by decide) ?_
          exact B182 σ52 x3 1 hF H locs ls hP hS (lv_sub hl [0, 1] rfl)
  have B114 : ∀ (σ : sm_S) (x1 : Int32) (x3 : Int32), mp_X11_readInstruction_114 K σ x1 x3 → sm_J p l e (headSpec wp_X11_readInstruction { frames := 3, cells := 0, slots := 0, locals := 63 }).room s m ([.ref (α.1 0), .int p1, .int p2] : List Value).toArray below meth c (MQ below (va_Qi K (sm_B sm_wM D α) A) ([.ref (α.1 0), .int p1, .int p2] : List Value).toArray s 0 0 A) D A 8 (sm_wM σ α) 114 [(0, .ref (α.1 0)), (1, .int x1), (3, .int x3)] [] := by
    intro σ x1 x3 hF H locs ls hP hS hl
    unfold mp_X11_readInstruction_114 at hF
    refine lv_aload_n hx hb dX11_readInstruction_114 rfl (lv_at hl 0 rfl) ?_
    refine lv_iconst (v := 0) hx hb dX11_readInstruction_115 (by decide) ?_
    refine lv_aload_n hx hb dX11_readInstruction_116 rfl (lv_at hl 0 rfl) ?_
    refine va_get (D := D) (ci := 11) (v := .ref (α.1 15)) (C := RX11) (T := TX11) (N := 28) hx hb hts in_X11 hown hK hP 0 (sm_gX11 σ α) rfl 20 (by decide) k_6 (fun _ h9 => h9) rfl dX11_readInstruction_117 ?_
    refine lv_iload_n hx hb dX11_readInstruction_120 rfl (lv_at hl 1 rfl) ?_
    obtain ⟨h55, hF⟩ := hF
    refine va_iald (n := (σ.2.2.1 15)) (f := (σ.2.2.2.1 15)) hx hb hK hP 15 13 (sm_aM15 σ α) (sm_yM15 α) h55 dX11_readInstruction_121 ?_
    refine lv_iconst (v := 1) hx hb dX11_readInstruction_122 (by decide) ?_
    refine lv_isub hx hb dX11_readInstruction_123 ?_
    refine sm_vi (As := [.int 0, .int (((σ.2.2.2.1 15) x1.toNatClampNeg) - 1)]) (rest := []) hP hK hD hE hS hA ⟨hx, hb, hml, hown, hts⟩ hl.1 (c_X11_over l D H.size t0 σ α 0 (((σ.2.2.2.1 15) x1.toNatClampNeg) - 1) _ hF) (cwV 2 hts wg_X11_readInstruction_X11_over_94 rfl rfl rfl (by decide +kernel) ⟨Nat.le_of_ble_eq_true rfl, Nat.le_of_ble_eq_true rfl⟩) (va_recv hK hP (ci := 11) (q0 := 0) rfl (sm_gX11 σ α)) rfl rfl (Nat.le_of_ble_eq_true rfl) dX11_readInstruction_124 ⟨Nat.zero_le _, Nat.zero_le _⟩ (fun r57 σ56 H locs hF hP hS => ?_)
    refine lv_istore (lv' := [(5, .int r57), (0, .ref (α.1 0)), (1, .int x1), (3, .int x3)]) hx hb dX11_readInstruction_127 hl (by decide) rfl (fun ls hl => ?_)
    refine lv_goto (tgt := 439) hx hb dX11_readInstruction_129 (by decide) ?_
    exact B439 σ56 x3 r57 hF H locs ls hP hS (lv_sub hl [1, 3, 0] rfl)
  have B97 : ∀ (σ : sm_S) (x3 : Int32) (y0 : Int32), mp_X11_readInstruction_97 K σ x3 y0 → sm_J p l e (headSpec wp_X11_readInstruction { frames := 3, cells := 0, slots := 0, locals := 63 }).room s m ([.ref (α.1 0), .int p1, .int p2] : List Value).toArray below meth c (MQ below (va_Qi K (sm_B sm_wM D α) A) ([.ref (α.1 0), .int p1, .int p2] : List Value).toArray s 0 0 A) D A 8 (sm_wM σ α) 97 [(0, .ref (α.1 0)), (3, .int x3)] [.int y0] := by
    intro σ x3 y0 hF H locs ls hP hS hl
    unfold mp_X11_readInstruction_97 at hF
    refine lv_istore (lv' := [(5, .int y0), (0, .ref (α.1 0)), (3, .int x3)]) hx hb dX11_readInstruction_97 hl (by decide) rfl (fun ls hl => ?_)
    refine lv_goto (tgt := 439) hx hb dX11_readInstruction_99 (by decide) ?_
    exact B439 σ x3 y0 hF H locs ls hP hS (lv_sub hl [1, 2, 0] rfl)
  have B96 : ∀ (σ : sm_S) (x3 : Int32), mp_X11_readInstruction_96 K σ x3 → sm_J p l e (headSpec wp_X11_readInstruction { frames := 3, cells := 0, slots := 0, locals := 63 }).room s m ([.ref (α.1 0), .int p1, .int p2] : List Value).toArray below meth c (MQ below (va_Qi K (sm_B sm_wM D α) A) ([.ref (α.1 0), .int p1, .int p2] : List Value).toArray s 0 0 A) D A 8 (sm_wM σ α) 96 [(0, .ref (α.1 0)), (3, .int x3)] [] := by
    intro σ x3 hF H locs ls hP hS hl
    unfold mp_X11_readInstruction_96 at hF
    refine lv_iconst (v := 0) hx hb dX11_readInstruction_96 (by decide) ?_
    exact B97 σ x3 0 hF H locs ls hP hS (lv_sub hl [0, 1] rfl)
  unfold mp_X11_readInstruction at hF
  revert hP hS
  generalize hLo : ([] : List Loc) = locs
  suffices h9 : ∀ (H : Heap) (locs : List Loc), va_P D vwCl (sm_wM σ α) H → va_S A s.heap H locs → W p l e (headSpec wp_X11_readInstruction { frames := 3, cells := 0, slots := 0, locals := 63 }).room s m ([.ref (α.1 0), .int p1, .int p2] : List Value).toArray below meth c H locs 0 0 (MQ below (va_Qi K (sm_B sm_wM D α) A) ([.ref (α.1 0), .int p1, .int p2] : List Value).toArray s 0 0 A) (F0 m 0 ls []) from fun hP hS => h9 s.heap locs hP hS
  intro H locs hP hS
  refine lv_aload_n hx hb dX11_readInstruction_0 rfl (lv_at hl 0 rfl) ?_
  refine va_get (D := D) (ci := 11) (v := .int (σ.1 2)) (C := RX11) (T := TX11) (N := 28) hx hb hts in_X11 hown hK hP 0 (sm_gX11 σ α) rfl 5 (by decide) k_2 (fun _ h9 => h9) rfl dX11_readInstruction_1 ?_
  refine lv_topi (fun v58 ev58 => ?_)
  replace hF := hF v58 ev58
  refine lv_istore_n (lv' := [(3, .int v58), (0, .ref (α.1 0)), (1, .int p1), (2, .int p2)]) hx hb dX11_readInstruction_4 rfl hl (by decide) rfl (fun ls hl => ?_)
  refine lv_aload_n hx hb dX11_readInstruction_5 rfl (lv_at hl 1 rfl) ?_
  refine lv_iconst (v := 0) hx hb dX11_readInstruction_6 (by decide) ?_
  refine lv_bipush (v := 41) hx hb dX11_readInstruction_7 (by decide) ?_
  refine sm_vi (As := [.int 0, .int 41]) (rest := []) hP hK hD hE hS hA ⟨hx, hb, hml, hown, hts⟩ hl.1 (c_X11_over l D H.size t0 σ α 0 41 _ hF) (cwV 2 hts wg_X11_readInstruction_X11_over_94 rfl rfl rfl (by decide +kernel) ⟨Nat.le_of_ble_eq_true rfl, Nat.le_of_ble_eq_true rfl⟩) (va_recv hK hP (ci := 11) (q0 := 0) rfl (sm_gX11 σ α)) rfl rfl (Nat.le_of_ble_eq_true rfl) dX11_readInstruction_9 ⟨Nat.zero_le _, Nat.zero_le _⟩ (fun r60 σ59 H locs hF hP hS => ?_)
  refine lv_if_ne (tgt := 17) hx hb dX11_readInstruction_12 (by decide) (fun h61 => ?_) (fun h61 => ?_)
  · replace hF := hF.1 h61
    refine lv_aload_n hx hb dX11_readInstruction_17 rfl (lv_at hl 1 rfl) ?_
    refine sm_vi (As := []) (rest := []) hP hK hD hE hS hA ⟨hx, hb, hml, hown, hts⟩ hl.1 (c_X11_last l D H.size t0 σ59 α _ hF) (cwV 0 hts wg_X11_readInstruction_X11_last_98 rfl rfl rfl (by decide +kernel) ⟨Nat.le_of_ble_eq_true rfl, Nat.le_of_ble_eq_true rfl⟩) (va_recv hK hP (ci := 11) (q0 := 0) rfl (sm_gX11 σ59 α)) rfl rfl (Nat.le_of_ble_eq_true rfl) dX11_readInstruction_18 ⟨Nat.zero_le _, Nat.zero_le _⟩ (fun r63 σ62 H locs hF hP hS => ?_)
    refine lv_istore (lv' := [(4, .int r63), (3, .int v58), (0, .ref (α.1 0)), (1, .int p1), (2, .int p2)]) hx hb dX11_readInstruction_21 hl (by decide) rfl (fun ls hl => ?_)
    refine lv_iload_n hx hb dX11_readInstruction_23 rfl (lv_at hl 1 rfl) ?_
    refine lv_iload hx hb dX11_readInstruction_24 (lv_at hl 0 rfl) ?_
    refine sm_si (As := [.int r63]) (rest := [.int v58]) hP hK hD hE hS hA ⟨hx, hb, hml, hown, hts⟩ hl.1 (c_X11_wide l D H.size t0 σ62 α r63 _ hF) (va_cwS 1 hts wg_X11_readInstruction_X11_wide_116 rfl rfl rfl (by decide +kernel) ⟨Nat.le_of_ble_eq_true rfl, Nat.le_of_ble_eq_true rfl⟩) rfl rfl (Nat.le_of_ble_eq_true rfl) dX11_readInstruction_26 ⟨Nat.zero_le _, Nat.zero_le _⟩ (fun r65 σ64 H locs hF hP hS => ?_)
    refine lv_iadd hx hb dX11_readInstruction_29 ?_
    refine lv_iload_n hx hb dX11_readInstruction_30 rfl (lv_at hl 4 rfl) ?_
    refine lv_icmp_le (tgt := 40) hx hb dX11_readInstruction_31 (by decide) (fun h66 => ?_) (fun h66 => ?_)
    · replace hF := hF.1 h66
      refine lv_iconst (v := 1) hx hb dX11_readInstruction_40 (by decide) ?_
      refine lv_istore (lv' := [(5, .int 1), (4, .int r63), (3, .int v58), (0, .ref (α.1 0)), (1, .int p1), (2, .int p2)]) hx hb dX11_readInstruction_41 hl (by decide) rfl (fun ls hl => ?_)
      refine lv_iload hx hb dX11_readInstruction_43 (lv_at hl 1 rfl) ?_
      refine lv_if_ne (tgt := 102) hx hb dX11_readInstruction_45 (by decide) (fun h67 => ?_) (fun h67 => ?_)
      · replace hF := hF.1 h67
        refine lv_iload hx hb dX11_readInstruction_102 (lv_at hl 1 rfl) ?_
        refine lv_iconst (v := 2) hx hb dX11_readInstruction_104 (by decide) ?_
        refine lv_icmp_eq (tgt := 114) hx hb dX11_readInstruction_105 (by decide) (fun h68 => ?_) (fun h68 => ?_)
        · replace hF := hF.1 h68
          exact B114 σ64 p1 v58 hF H locs ls hP hS (lv_sub hl [3, 4, 2] rfl)
        · replace hF := hF.2 h68
          refine lv_iload hx hb dX11_readInstruction_108 (lv_at hl 1 rfl) ?_
          refine lv_iconst (v := 3) hx hb dX11_readInstruction_110 (by decide) ?_
          refine lv_icmp_ne (tgt := 132) hx hb dX11_readInstruction_111 (by decide) (fun h69 => ?_) (fun h69 => ?_)
          · replace hF := hF.1 h69
            refine lv_iload hx hb dX11_readInstruction_132 (lv_at hl 1 rfl) ?_
            refine lv_bipush (v := 19) hx hb dX11_readInstruction_134 (by decide) ?_
            refine lv_icmp_eq (tgt := 146) hx hb dX11_readInstruction_136 (by decide) (fun h70 => ?_) (fun h70 => ?_)
            · replace hF := hF.1 h70
              exact B146 σ64 v58 hF H locs ls hP hS (lv_sub hl [3, 2] rfl)
            · replace hF := hF.2 h70
              refine lv_iload hx hb dX11_readInstruction_139 (lv_at hl 1 rfl) ?_
              refine lv_bipush (v := 20) hx hb dX11_readInstruction_141 (by decide) ?_
              refine lv_icmp_ne (tgt := 187) hx hb dX11_readInstruction_143 (by decide) (fun h71 => ?_) (fun h71 => ?_)
              · replace hF := hF.1 h71
                refine lv_iload hx hb dX11_readInstruction_187 (lv_at hl 1 rfl) ?_
                refine lv_bipush (v := 21) hx hb dX11_readInstruction_189 (by decide) ?_
                refine lv_icmp_lt (tgt := 233) hx hb dX11_readInstruction_191 (by decide) (fun h72 => ?_) (fun h72 => ?_)
                · replace hF := hF.1 h72
                  exact B233 σ64 v58 r63 1 hF H locs ls hP hS (lv_sub hl [3, 2, 1, 0] rfl)
                · replace hF := hF.2 h72
                  refine lv_iload hx hb dX11_readInstruction_194 (lv_at hl 1 rfl) ?_
                  refine lv_bipush (v := 25) hx hb dX11_readInstruction_196 (by decide) ?_
                  refine lv_icmp_gt (tgt := 233) hx hb dX11_readInstruction_198 (by decide) (fun h73 => ?_) (fun h73 => ?_)
                  · replace hF := hF.1 h73
                    exact B233 σ64 v58 r63 1 hF H locs ls hP hS (lv_sub hl [3, 2, 1, 0] rfl)
                  · replace hF := hF.2 h73
                    refine lv_aload_n hx hb dX11_readInstruction_201 rfl (lv_at hl 3 rfl) ?_
                    refine lv_iconst (v := 0) hx hb dX11_readInstruction_202 (by decide) ?_
                    refine lv_sipush (v := 255) hx hb dX11_readInstruction_203 (by decide) ?_
                    refine sm_vi (As := [.int 0, .int 255]) (rest := []) hP hK hD hE hS hA ⟨hx, hb, hml, hown, hts⟩ hl.1 (c_X11_over l D H.size t0 σ64 α 0 255 _ hF) (cwV 2 hts wg_X11_readInstruction_X11_over_94 rfl rfl rfl (by decide +kernel) ⟨Nat.le_of_ble_eq_true rfl, Nat.le_of_ble_eq_true rfl⟩) (va_recv hK hP (ci := 11) (q0 := 0) rfl (sm_gX11 σ64 α)) rfl rfl (Nat.le_of_ble_eq_true rfl) dX11_readInstruction_206 ⟨Nat.zero_le _, Nat.zero_le _⟩ (fun r75 σ74 H locs hF hP hS => ?_)
                    refine lv_if_eq (tgt := 227) hx hb dX11_readInstruction_209 (by decide) (fun h76 => ?_) (fun h76 => ?_)
                    · replace hF := hF.1 h76
                      exact B227 σ74 v58 hF H locs ls hP hS (lv_sub hl [3, 2] rfl)
                    · replace hF := hF.2 h76
                      refine lv_aload_n hx hb dX11_readInstruction_212 rfl (lv_at hl 3 rfl) ?_
                      refine lv_iconst (v := 0) hx hb dX11_readInstruction_213 (by decide) ?_
                      refine lv_sipush (v := 255) hx hb dX11_readInstruction_214 (by decide) ?_
                      refine sm_vi (As := [.int 0, .int 255]) (rest := []) hP hK hD hE hS hA ⟨hx, hb, hml, hown, hts⟩ hl.1 (c_X11_over l D H.size t0 σ74 α 0 255 _ hF) (cwV 2 hts wg_X11_readInstruction_X11_over_94 rfl rfl rfl (by decide +kernel) ⟨Nat.le_of_ble_eq_true rfl, Nat.le_of_ble_eq_true rfl⟩) (va_recv hK hP (ci := 11) (q0 := 0) rfl (sm_gX11 σ74 α)) rfl rfl (Nat.le_of_ble_eq_true rfl) dX11_readInstruction_217 ⟨Nat.zero_le _, Nat.zero_le _⟩ (fun r78 σ77 H locs hF hP hS => ?_)
                      refine lv_if_eq (tgt := 227) hx hb dX11_readInstruction_220 (by decide) (fun h79 => ?_) (fun h79 => ?_)
                      · replace hF := hF.1 h79
                        exact B227 σ77 v58 hF H locs ls hP hS (lv_sub hl [3, 2] rfl)
                      · replace hF := hF.2 h79
                        refine lv_iconst (v := 1) hx hb dX11_readInstruction_223 (by decide) ?_
                        refine lv_goto (tgt := 228) hx hb dX11_readInstruction_224 (by decide) ?_
                        exact B228 σ77 v58 1 hF H locs ls hP hS (lv_sub hl [3, 2] rfl)
              · replace hF := hF.2 h71
                exact B146 σ64 v58 hF H locs ls hP hS (lv_sub hl [3, 2] rfl)
          · replace hF := hF.2 h69
            exact B114 σ64 p1 v58 hF H locs ls hP hS (lv_sub hl [3, 4, 2] rfl)
      · replace hF := hF.2 h67
        refine lv_aload_n hx hb dX11_readInstruction_48 rfl (lv_at hl 3 rfl) ?_
        refine lv_iconst (v := 0) hx hb dX11_readInstruction_49 (by decide) ?_
        refine lv_sipush (v := 255) hx hb dX11_readInstruction_50 (by decide) ?_
        refine sm_vi (As := [.int 0, .int 255]) (rest := []) hP hK hD hE hS hA ⟨hx, hb, hml, hown, hts⟩ hl.1 (c_X11_over l D H.size t0 σ64 α 0 255 _ hF) (cwV 2 hts wg_X11_readInstruction_X11_over_94 rfl rfl rfl (by decide +kernel) ⟨Nat.le_of_ble_eq_true rfl, Nat.le_of_ble_eq_true rfl⟩) (va_recv hK hP (ci := 11) (q0 := 0) rfl (sm_gX11 σ64 α)) rfl rfl (Nat.le_of_ble_eq_true rfl) dX11_readInstruction_53 ⟨Nat.zero_le _, Nat.zero_le _⟩ (fun r81 σ80 H locs hF hP hS => ?_)
        refine lv_if_eq (tgt := 96) hx hb dX11_readInstruction_56 (by decide) (fun h82 => ?_) (fun h82 => ?_)
        · replace hF := hF.1 h82
          exact B96 σ80 v58 hF H locs ls hP hS (lv_sub hl [3, 2] rfl)
        · replace hF := hF.2 h82
          refine lv_aload_n hx hb dX11_readInstruction_59 rfl (lv_at hl 3 rfl) ?_
          refine lv_iconst (v := 0) hx hb dX11_readInstruction_60 (by decide) ?_
          refine lv_sipush (v := 255) hx hb dX11_readInstruction_61 (by decide) ?_
          refine sm_vi (As := [.int 0, .int 255]) (rest := []) hP hK hD hE hS hA ⟨hx, hb, hml, hown, hts⟩ hl.1 (c_X11_over l D H.size t0 σ80 α 0 255 _ hF) (cwV 2 hts wg_X11_readInstruction_X11_over_94 rfl rfl rfl (by decide +kernel) ⟨Nat.le_of_ble_eq_true rfl, Nat.le_of_ble_eq_true rfl⟩) (va_recv hK hP (ci := 11) (q0 := 0) rfl (sm_gX11 σ80 α)) rfl rfl (Nat.le_of_ble_eq_true rfl) dX11_readInstruction_64 ⟨Nat.zero_le _, Nat.zero_le _⟩ (fun r84 σ83 H locs hF hP hS => ?_)
          refine lv_if_eq (tgt := 96) hx hb dX11_readInstruction_67 (by decide) (fun h85 => ?_) (fun h85 => ?_)
          · replace hF := hF.1 h85
            exact B96 σ83 v58 hF H locs ls hP hS (lv_sub hl [3, 2] rfl)
          · replace hF := hF.2 h85
            refine lv_aload_n hx hb dX11_readInstruction_70 rfl (lv_at hl 3 rfl) ?_
            refine lv_iconst (v := 0) hx hb dX11_readInstruction_71 (by decide) ?_
            refine lv_sipush (v := 255) hx hb dX11_readInstruction_72 (by decide) ?_
            refine sm_vi (As := [.int 0, .int 255]) (rest := []) hP hK hD hE hS hA ⟨hx, hb, hml, hown, hts⟩ hl.1 (c_X11_over l D H.size t0 σ83 α 0 255 _ hF) (cwV 2 hts wg_X11_readInstruction_X11_over_94 rfl rfl rfl (by decide +kernel) ⟨Nat.le_of_ble_eq_true rfl, Nat.le_of_ble_eq_true rfl⟩) (va_recv hK hP (ci := 11) (q0 := 0) rfl (sm_gX11 σ83 α)) rfl rfl (Nat.le_of_ble_eq_true rfl) dX11_readInstruction_75 ⟨Nat.zero_le _, Nat.zero_le _⟩ (fun r87 σ86 H locs hF hP hS => ?_)
            refine lv_if_eq (tgt := 96) hx hb dX11_readInstruction_78 (by decide) (fun h88 => ?_) (fun h88 => ?_)
            · replace hF := hF.1 h88
              exact B96 σ86 v58 hF H locs ls hP hS (lv_sub hl [3, 2] rfl)
            · replace hF := hF.2 h88
              refine lv_aload_n hx hb dX11_readInstruction_81 rfl (lv_at hl 3 rfl) ?_
              refine lv_iconst (v := 0) hx hb dX11_readInstruction_82 (by decide) ?_
              refine lv_sipush (v := 255) hx hb dX11_readInstruction_83 (by decide) ?_
              refine sm_vi (As := [.int 0, .int 255]) (rest := []) hP hK hD hE hS hA ⟨hx, hb, hml, hown, hts⟩ hl.1 (c_X11_over l D H.size t0 σ86 α 0 255 _ hF) (cwV 2 hts wg_X11_readInstruction_X11_over_94 rfl rfl rfl (by decide +kernel) ⟨Nat.le_of_ble_eq_true rfl, Nat.le_of_ble_eq_true rfl⟩) (va_recv hK hP (ci := 11) (q0 := 0) rfl (sm_gX11 σ86 α)) rfl rfl (Nat.le_of_ble_eq_true rfl) dX11_readInstruction_86 ⟨Nat.zero_le _, Nat.zero_le _⟩ (fun r90 σ89 H locs hF hP hS => ?_)
              refine lv_if_eq (tgt := 96) hx hb dX11_readInstruction_89 (by decide) (fun h91 => ?_) (fun h91 => ?_)
              · replace hF := hF.1 h91
                exact B96 σ89 v58 hF H locs ls hP hS (lv_sub hl [3, 2] rfl)
              · replace hF := hF.2 h91
                refine lv_iconst (v := 1) hx hb dX11_readInstruction_92 (by decide) ?_
                refine lv_goto (tgt := 97) hx hb dX11_readInstruction_93 (by decide) ?_
                exact B97 σ89 v58 1 hF H locs ls hP hS (lv_sub hl [3, 2] rfl)
    · replace hF := hF.2 h66
      refine lv_aload_n hx hb dX11_readInstruction_34 rfl (lv_at hl 2 rfl) ?_
      refine lv_iload_n hx hb dX11_readInstruction_35 rfl (lv_at hl 1 rfl) ?_
      refine sm_vi (As := [.int v58]) (rest := []) hP hK hD hE hS hA ⟨hx, hb, hml, hown, hts⟩ hl.1 (c_X11_bad l D H.size t0 σ64 α v58 _ hF) (cwV 1 hts wg_X11_readInstruction_X11_bad_87 rfl rfl rfl (by decide +kernel) ⟨Nat.le_of_ble_eq_true rfl, Nat.le_of_ble_eq_true rfl⟩) (va_recv hK hP (ci := 11) (q0 := 0) rfl (sm_gX11 σ64 α)) rfl rfl (Nat.le_of_ble_eq_true rfl) dX11_readInstruction_36 ⟨Nat.zero_le _, Nat.zero_le _⟩ (fun r93 σ92 H locs hF hP hS => ?_)
      obtain ⟨h94, hF⟩ := hF
      exact W.zret (v := r93) hx hb hr h94.1 (fun t ht hW => ⟨⟨r93, σ92, rfl, hF, (by unfold sm_B; rw [ht]; exact hP)⟩, hS.F ht⟩) hS.2.2 dX11_readInstruction_39
  · replace hF := hF.2 h61
    refine lv_iconst (v := 0) hx hb dX11_readInstruction_15 (by decide) ?_
    exact W.zret (v := 0) hx hb hr sm_z0.1 (fun t ht hW => ⟨⟨0, σ59, rfl, hF, (by unfold sm_B; rw [ht]; exact hP)⟩, hS.F ht⟩) hS.2.2 dX11_readInstruction_16
theorem dX11_readMethod_0 : decode cX11_readMethod 0 = .ok (.aload_n 0, 1) := by decide +kernel
theorem dX11_readMethod_1 : decode cX11_readMethod 1 = .ok (.invokevirtual 83, 3) := by decide +kernel
theorem dX11_readMethod_4 : decode cX11_readMethod 4 = .ok (.sipush 255, 3) := by decide +kernel
theorem dX11_readMethod_7 : decode cX11_readMethod 7 = .ok (.if_icmp .eq 23, 3) := by decide +kernel
theorem dX11_readMethod_10 : decode cX11_readMethod 10 = .ok (.aload_n 0, 1) := by decide +kernel
theorem dX11_readMethod_11 : decode cX11_readMethod 11 = .ok (.invokevirtual 83, 3) := by decide +kernel
theorem dX11_readMethod_14 : decode cX11_readMethod 14 = .ok (.aload_n 0, 1) := by decide +kernel
theorem dX11_readMethod_15 : decode cX11_readMethod 15 = .ok (.getfield 91, 3) := by decide +kernel
theorem dX11_readMethod_18 : decode cX11_readMethod 18 = .ok (.if_icmp .lt 12, 3) := by decide +kernel
theorem dX11_readMethod_21 : decode cX11_readMethod 21 = .ok (.aload_n 0, 1) := by decide +kernel
theorem dX11_readMethod_22 : decode cX11_readMethod 22 = .ok (.aload_n 0, 1) := by decide +kernel
theorem dX11_readMethod_23 : decode cX11_readMethod 23 = .ok (.getfield 77, 3) := by decide +kernel
theorem dX11_readMethod_26 : decode cX11_readMethod 26 = .ok (.invokevirtual 87, 3) := by decide +kernel
theorem dX11_readMethod_29 : decode cX11_readMethod 29 = .ok (.ireturn, 1) := by decide +kernel
theorem dX11_readMethod_30 : decode cX11_readMethod 30 = .ok (.aload_n 0, 1) := by decide +kernel
theorem dX11_readMethod_31 : decode cX11_readMethod 31 = .ok (.getfield 40, 3) := by decide +kernel
theorem dX11_readMethod_34 : decode cX11_readMethod 34 = .ok (.iload_n 1, 1) := by decide +kernel
theorem dX11_readMethod_35 : decode cX11_readMethod 35 = .ok (.aload_n 0, 1) := by decide +kernel
theorem dX11_readMethod_36 : decode cX11_readMethod 36 = .ok (.invokevirtual 83, 3) := by decide +kernel
theorem dX11_readMethod_39 : decode cX11_readMethod 39 = .ok (.sipush 255, 3) := by decide +kernel
theorem dX11_readMethod_42 : decode cX11_readMethod 42 = .ok (.if_icmp .ne 7, 3) := by decide +kernel
theorem dX11_readMethod_45 : decode cX11_readMethod 45 = .ok (.iconst (-1), 1) := by decide +kernel
theorem dX11_readMethod_46 : decode cX11_readMethod 46 = .ok (.goto 7, 3) := by decide +kernel
theorem dX11_readMethod_49 : decode cX11_readMethod 49 = .ok (.aload_n 0, 1) := by decide +kernel
theorem dX11_readMethod_50 : decode cX11_readMethod 50 = .ok (.invokevirtual 83, 3) := by decide +kernel
theorem dX11_readMethod_53 : decode cX11_readMethod 53 = .ok (.iastore, 1) := by decide +kernel
theorem dX11_readMethod_54 : decode cX11_readMethod 54 = .ok (.aload_n 0, 1) := by decide +kernel
theorem dX11_readMethod_55 : decode cX11_readMethod 55 = .ok (.dup, 1) := by decide +kernel
theorem dX11_readMethod_56 : decode cX11_readMethod 56 = .ok (.getfield 77, 3) := by decide +kernel
theorem dX11_readMethod_59 : decode cX11_readMethod 59 = .ok (.iconst 1, 1) := by decide +kernel
theorem dX11_readMethod_60 : decode cX11_readMethod 60 = .ok (.iadd, 1) := by decide +kernel
theorem dX11_readMethod_61 : decode cX11_readMethod 61 = .ok (.putfield 77, 3) := by decide +kernel
theorem dX11_readMethod_64 : decode cX11_readMethod 64 = .ok (.aload_n 0, 1) := by decide +kernel
theorem dX11_readMethod_65 : decode cX11_readMethod 65 = .ok (.iconst 0, 1) := by decide +kernel
theorem dX11_readMethod_66 : decode cX11_readMethod 66 = .ok (.bipush 7, 2) := by decide +kernel
theorem dX11_readMethod_68 : decode cX11_readMethod 68 = .ok (.invokevirtual 94, 3) := by decide +kernel
theorem dX11_readMethod_71 : decode cX11_readMethod 71 = .ok (.ifCond .ne 5, 3) := by decide +kernel
theorem dX11_readMethod_74 : decode cX11_readMethod 74 = .ok (.iconst 0, 1) := by decide +kernel
theorem dX11_readMethod_75 : decode cX11_readMethod 75 = .ok (.ireturn, 1) := by decide +kernel
theorem dX11_readMethod_76 : decode cX11_readMethod 76 = .ok (.aload_n 0, 1) := by decide +kernel
theorem dX11_readMethod_77 : decode cX11_readMethod 77 = .ok (.invokevirtual 98, 3) := by decide +kernel
theorem dX11_readMethod_80 : decode cX11_readMethod 80 = .ok (.istore_n 2, 1) := by decide +kernel
theorem dX11_readMethod_81 : decode cX11_readMethod 81 = .ok (.iconst 0, 1) := by decide +kernel
theorem dX11_readMethod_82 : decode cX11_readMethod 82 = .ok (.istore_n 3, 1) := by decide +kernel
theorem dX11_readMethod_83 : decode cX11_readMethod 83 = .ok (.aload_n 0, 1) := by decide +kernel
theorem dX11_readMethod_84 : decode cX11_readMethod 84 = .ok (.getfield 40, 3) := by decide +kernel
theorem dX11_readMethod_87 : decode cX11_readMethod 87 = .ok (.iload_n 1, 1) := by decide +kernel
theorem dX11_readMethod_88 : decode cX11_readMethod 88 = .ok (.iaload, 1) := by decide +kernel
theorem dX11_readMethod_89 : decode cX11_readMethod 89 = .ok (.ifCond .lt 22, 3) := by decide +kernel
theorem dX11_readMethod_92 : decode cX11_readMethod 92 = .ok (.aload_n 0, 1) := by decide +kernel
theorem dX11_readMethod_93 : decode cX11_readMethod 93 = .ok (.getfield 46, 3) := by decide +kernel
theorem dX11_readMethod_96 : decode cX11_readMethod 96 = .ok (.bipush 8, 2) := by decide +kernel
theorem dX11_readMethod_98 : decode cX11_readMethod 98 = .ok (.iload_n 1, 1) := by decide +kernel
theorem dX11_readMethod_99 : decode cX11_readMethod 99 = .ok (.imul, 1) := by decide +kernel
theorem dX11_readMethod_100 : decode cX11_readMethod 100 = .ok (.iconst 1, 1) := by decide +kernel
theorem dX11_readMethod_101 : decode cX11_readMethod 101 = .ok (.aload_n 0, 1) := by decide +kernel
theorem dX11_readMethod_102 : decode cX11_readMethod 102 = .ok (.getfield 40, 3) := by decide +kernel
theorem dX11_readMethod_105 : decode cX11_readMethod 105 = .ok (.iload_n 1, 1) := by decide +kernel
theorem dX11_readMethod_106 : decode cX11_readMethod 106 = .ok (.iaload, 1) := by decide +kernel
theorem dX11_readMethod_107 : decode cX11_readMethod 107 = .ok (.iadd, 1) := by decide +kernel
theorem dX11_readMethod_108 : decode cX11_readMethod 108 = .ok (.iastore, 1) := by decide +kernel
theorem dX11_readMethod_109 : decode cX11_readMethod 109 = .ok (.iconst 1, 1) := by decide +kernel
theorem dX11_readMethod_110 : decode cX11_readMethod 110 = .ok (.istore_n 3, 1) := by decide +kernel
theorem dX11_readMethod_111 : decode cX11_readMethod 111 = .ok (.iconst 0, 1) := by decide +kernel
theorem dX11_readMethod_112 : decode cX11_readMethod 112 = .ok (.istore 4, 2) := by decide +kernel
theorem dX11_readMethod_114 : decode cX11_readMethod 114 = .ok (.iload 4, 2) := by decide +kernel
theorem dX11_readMethod_116 : decode cX11_readMethod 116 = .ok (.iload_n 2, 1) := by decide +kernel
theorem dX11_readMethod_117 : decode cX11_readMethod 117 = .ok (.if_icmp .ge 37, 3) := by decide +kernel
theorem dX11_readMethod_120 : decode cX11_readMethod 120 = .ok (.aload_n 0, 1) := by decide +kernel
theorem dX11_readMethod_121 : decode cX11_readMethod 121 = .ok (.iconst 0, 1) := by decide +kernel
theorem dX11_readMethod_122 : decode cX11_readMethod 122 = .ok (.invokevirtual 101, 3) := by decide +kernel
theorem dX11_readMethod_125 : decode cX11_readMethod 125 = .ok (.ifCond .ne 5, 3) := by decide +kernel
theorem dX11_readMethod_128 : decode cX11_readMethod 128 = .ok (.iconst 0, 1) := by decide +kernel
theorem dX11_readMethod_129 : decode cX11_readMethod 129 = .ok (.ireturn, 1) := by decide +kernel
theorem dX11_readMethod_130 : decode cX11_readMethod 130 = .ok (.aload_n 0, 1) := by decide +kernel
theorem dX11_readMethod_131 : decode cX11_readMethod 131 = .ok (.getfield 46, 3) := by decide +kernel
theorem dX11_readMethod_134 : decode cX11_readMethod 134 = .ok (.bipush 8, 2) := by decide +kernel
theorem dX11_readMethod_136 : decode cX11_readMethod 136 = .ok (.iload_n 1, 1) := by decide +kernel
theorem dX11_readMethod_137 : decode cX11_readMethod 137 = .ok (.imul, 1) := by decide +kernel
theorem dX11_readMethod_138 : decode cX11_readMethod 138 = .ok (.iload_n 3, 1) := by decide +kernel
theorem dX11_readMethod_139 : decode cX11_readMethod 139 = .ok (.iadd, 1) := by decide +kernel
theorem dX11_readMethod_140 : decode cX11_readMethod 140 = .ok (.aload_n 0, 1) := by decide +kernel
theorem dX11_readMethod_141 : decode cX11_readMethod 141 = .ok (.invokevirtual 98, 3) := by decide +kernel
theorem dX11_readMethod_144 : decode cX11_readMethod 144 = .ok (.iastore, 1) := by decide +kernel
theorem dX11_readMethod_145 : decode cX11_readMethod 145 = .ok (.iinc 3 1, 3) := by decide +kernel
theorem dX11_readMethod_148 : decode cX11_readMethod 148 = .ok (.iinc 4 1, 3) := by decide +kernel
theorem dX11_readMethod_151 : decode cX11_readMethod 151 = .ok (.goto (-37), 3) := by decide +kernel
theorem dX11_readMethod_154 : decode cX11_readMethod 154 = .ok (.aload_n 0, 1) := by decide +kernel
theorem dX11_readMethod_155 : decode cX11_readMethod 155 = .ok (.getfield 43, 3) := by decide +kernel
theorem dX11_readMethod_158 : decode cX11_readMethod 158 = .ok (.iload_n 1, 1) := by decide +kernel
theorem dX11_readMethod_159 : decode cX11_readMethod 159 = .ok (.iload_n 3, 1) := by decide +kernel
theorem dX11_readMethod_160 : decode cX11_readMethod 160 = .ok (.iastore, 1) := by decide +kernel
theorem dX11_readMethod_161 : decode cX11_readMethod 161 = .ok (.aload_n 0, 1) := by decide +kernel
theorem dX11_readMethod_162 : decode cX11_readMethod 162 = .ok (.iconst 1, 1) := by decide +kernel
theorem dX11_readMethod_163 : decode cX11_readMethod 163 = .ok (.invokevirtual 101, 3) := by decide +kernel
theorem dX11_readMethod_166 : decode cX11_readMethod 166 = .ok (.ifCond .ne 5, 3) := by decide +kernel
theorem dX11_readMethod_169 : decode cX11_readMethod 169 = .ok (.iconst 0, 1) := by decide +kernel
theorem dX11_readMethod_170 : decode cX11_readMethod 170 = .ok (.ireturn, 1) := by decide +kernel
theorem dX11_readMethod_171 : decode cX11_readMethod 171 = .ok (.aload_n 0, 1) := by decide +kernel
theorem dX11_readMethod_172 : decode cX11_readMethod 172 = .ok (.getfield 49, 3) := by decide +kernel
theorem dX11_readMethod_175 : decode cX11_readMethod 175 = .ok (.iload_n 1, 1) := by decide +kernel
theorem dX11_readMethod_176 : decode cX11_readMethod 176 = .ok (.aload_n 0, 1) := by decide +kernel
theorem dX11_readMethod_177 : decode cX11_readMethod 177 = .ok (.invokevirtual 98, 3) := by decide +kernel
theorem dX11_readMethod_180 : decode cX11_readMethod 180 = .ok (.sipush 255, 3) := by decide +kernel
theorem dX11_readMethod_183 : decode cX11_readMethod 183 = .ok (.if_icmp .ne 7, 3) := by decide +kernel
theorem dX11_readMethod_186 : decode cX11_readMethod 186 = .ok (.iconst (-1), 1) := by decide +kernel
theorem dX11_readMethod_187 : decode cX11_readMethod 187 = .ok (.goto 7, 3) := by decide +kernel
theorem dX11_readMethod_190 : decode cX11_readMethod 190 = .ok (.aload_n 0, 1) := by decide +kernel
theorem dX11_readMethod_191 : decode cX11_readMethod 191 = .ok (.invokevirtual 98, 3) := by decide +kernel
theorem dX11_readMethod_194 : decode cX11_readMethod 194 = .ok (.iastore, 1) := by decide +kernel
theorem dX11_readMethod_195 : decode cX11_readMethod 195 = .ok (.aload_n 0, 1) := by decide +kernel
theorem dX11_readMethod_196 : decode cX11_readMethod 196 = .ok (.iload_n 3, 1) := by decide +kernel
theorem dX11_readMethod_197 : decode cX11_readMethod 197 = .ok (.bipush 12, 2) := by decide +kernel
theorem dX11_readMethod_199 : decode cX11_readMethod 199 = .ok (.invokevirtual 94, 3) := by decide +kernel
theorem dX11_readMethod_202 : decode cX11_readMethod 202 = .ok (.ifCond .ne 5, 3) := by decide +kernel
theorem dX11_readMethod_205 : decode cX11_readMethod 205 = .ok (.iconst 0, 1) := by decide +kernel
theorem dX11_readMethod_206 : decode cX11_readMethod 206 = .ok (.ireturn, 1) := by decide +kernel
theorem dX11_readMethod_207 : decode cX11_readMethod 207 = .ok (.aload_n 0, 1) := by decide +kernel
theorem dX11_readMethod_208 : decode cX11_readMethod 208 = .ok (.getfield 52, 3) := by decide +kernel
theorem dX11_readMethod_211 : decode cX11_readMethod 211 = .ok (.iload_n 1, 1) := by decide +kernel
theorem dX11_readMethod_212 : decode cX11_readMethod 212 = .ok (.aload_n 0, 1) := by decide +kernel
theorem dX11_readMethod_213 : decode cX11_readMethod 213 = .ok (.invokevirtual 98, 3) := by decide +kernel
theorem dX11_readMethod_216 : decode cX11_readMethod 216 = .ok (.iastore, 1) := by decide +kernel
theorem dX11_readMethod_217 : decode cX11_readMethod 217 = .ok (.aload_n 0, 1) := by decide +kernel
theorem dX11_readMethod_218 : decode cX11_readMethod 218 = .ok (.iconst 0, 1) := by decide +kernel
theorem dX11_readMethod_219 : decode cX11_readMethod 219 = .ok (.bipush 12, 2) := by decide +kernel
theorem dX11_readMethod_221 : decode cX11_readMethod 221 = .ok (.aload_n 0, 1) := by decide +kernel
theorem dX11_readMethod_222 : decode cX11_readMethod 222 = .ok (.getfield 52, 3) := by decide +kernel
theorem dX11_readMethod_225 : decode cX11_readMethod 225 = .ok (.iload_n 1, 1) := by decide +kernel
theorem dX11_readMethod_226 : decode cX11_readMethod 226 = .ok (.iaload, 1) := by decide +kernel
theorem dX11_readMethod_227 : decode cX11_readMethod 227 = .ok (.isub, 1) := by decide +kernel
theorem dX11_readMethod_228 : decode cX11_readMethod 228 = .ok (.invokevirtual 94, 3) := by decide +kernel
theorem dX11_readMethod_231 : decode cX11_readMethod 231 = .ok (.ifCond .ne 5, 3) := by decide +kernel
theorem dX11_readMethod_234 : decode cX11_readMethod 234 = .ok (.iconst 0, 1) := by decide +kernel
theorem dX11_readMethod_235 : decode cX11_readMethod 235 = .ok (.ireturn, 1) := by decide +kernel
theorem dX11_readMethod_236 : decode cX11_readMethod 236 = .ok (.aload_n 0, 1) := by decide +kernel
theorem dX11_readMethod_237 : decode cX11_readMethod 237 = .ok (.getfield 55, 3) := by decide +kernel
theorem dX11_readMethod_240 : decode cX11_readMethod 240 = .ok (.iload_n 1, 1) := by decide +kernel
theorem dX11_readMethod_241 : decode cX11_readMethod 241 = .ok (.aload_n 0, 1) := by decide +kernel
theorem dX11_readMethod_242 : decode cX11_readMethod 242 = .ok (.invokevirtual 98, 3) := by decide +kernel
theorem dX11_readMethod_245 : decode cX11_readMethod 245 = .ok (.iastore, 1) := by decide +kernel
theorem dX11_readMethod_246 : decode cX11_readMethod 246 = .ok (.aload_n 0, 1) := by decide +kernel
theorem dX11_readMethod_247 : decode cX11_readMethod 247 = .ok (.iconst 0, 1) := by decide +kernel
theorem dX11_readMethod_248 : decode cX11_readMethod 248 = .ok (.iconst 3, 1) := by decide +kernel
theorem dX11_readMethod_249 : decode cX11_readMethod 249 = .ok (.invokevirtual 94, 3) := by decide +kernel
theorem dX11_readMethod_252 : decode cX11_readMethod 252 = .ok (.ifCond .eq 39, 3) := by decide +kernel
theorem dX11_readMethod_255 : decode cX11_readMethod 255 = .ok (.aload_n 0, 1) := by decide +kernel
theorem dX11_readMethod_256 : decode cX11_readMethod 256 = .ok (.aload_n 0, 1) := by decide +kernel
theorem dX11_readMethod_257 : decode cX11_readMethod 257 = .ok (.invokevirtual 98, 3) := by decide +kernel
theorem dX11_readMethod_260 : decode cX11_readMethod 260 = .ok (.ifCond .ne 7, 3) := by decide +kernel
theorem dX11_readMethod_263 : decode cX11_readMethod 263 = .ok (.iconst 1, 1) := by decide +kernel
theorem dX11_readMethod_264 : decode cX11_readMethod 264 = .ok (.goto 4, 3) := by decide +kernel
theorem dX11_readMethod_267 : decode cX11_readMethod 267 = .ok (.iconst 0, 1) := by decide +kernel
theorem dX11_readMethod_268 : decode cX11_readMethod 268 = .ok (.aload_n 0, 1) := by decide +kernel
theorem dX11_readMethod_269 : decode cX11_readMethod 269 = .ok (.invokevirtual 98, 3) := by decide +kernel
theorem dX11_readMethod_272 : decode cX11_readMethod 272 = .ok (.iconst 3, 1) := by decide +kernel
theorem dX11_readMethod_273 : decode cX11_readMethod 273 = .ok (.if_icmp .ne 9, 3) := by decide +kernel
theorem dX11_readMethod_276 : decode cX11_readMethod 276 = .ok (.sipush 232, 3) := by decide +kernel
theorem dX11_readMethod_279 : decode cX11_readMethod 279 = .ok (.goto 6, 3) := by decide +kernel
theorem dX11_readMethod_282 : decode cX11_readMethod 282 = .ok (.sipush 255, 3) := by decide +kernel
theorem dX11_readMethod_285 : decode cX11_readMethod 285 = .ok (.invokevirtual 94, 3) := by decide +kernel
theorem dX11_readMethod_288 : decode cX11_readMethod 288 = .ok (.ifCond .ne 5, 3) := by decide +kernel
theorem dX11_readMethod_291 : decode cX11_readMethod 291 = .ok (.iconst 0, 1) := by decide +kernel
theorem dX11_readMethod_292 : decode cX11_readMethod 292 = .ok (.ireturn, 1) := by decide +kernel
theorem dX11_readMethod_293 : decode cX11_readMethod 293 = .ok (.aload_n 0, 1) := by decide +kernel
theorem dX11_readMethod_294 : decode cX11_readMethod 294 = .ok (.getfield 61, 3) := by decide +kernel
theorem dX11_readMethod_297 : decode cX11_readMethod 297 = .ok (.iload_n 1, 1) := by decide +kernel
theorem dX11_readMethod_298 : decode cX11_readMethod 298 = .ok (.aload_n 0, 1) := by decide +kernel
theorem dX11_readMethod_299 : decode cX11_readMethod 299 = .ok (.aload_n 0, 1) := by decide +kernel
theorem dX11_readMethod_300 : decode cX11_readMethod 300 = .ok (.getfield 77, 3) := by decide +kernel
theorem dX11_readMethod_303 : decode cX11_readMethod 303 = .ok (.iconst 2, 1) := by decide +kernel
theorem dX11_readMethod_304 : decode cX11_readMethod 304 = .ok (.isub, 1) := by decide +kernel
theorem dX11_readMethod_305 : decode cX11_readMethod 305 = .ok (.invokevirtual 105, 3) := by decide +kernel
theorem dX11_readMethod_308 : decode cX11_readMethod 308 = .ok (.iastore, 1) := by decide +kernel
theorem dX11_readMethod_309 : decode cX11_readMethod 309 = .ok (.aload_n 0, 1) := by decide +kernel
theorem dX11_readMethod_310 : decode cX11_readMethod 310 = .ok (.getfield 58, 3) := by decide +kernel
theorem dX11_readMethod_313 : decode cX11_readMethod 313 = .ok (.iload_n 1, 1) := by decide +kernel
theorem dX11_readMethod_314 : decode cX11_readMethod 314 = .ok (.aload_n 0, 1) := by decide +kernel
theorem dX11_readMethod_315 : decode cX11_readMethod 315 = .ok (.getfield 77, 3) := by decide +kernel
theorem dX11_readMethod_318 : decode cX11_readMethod 318 = .ok (.iastore, 1) := by decide +kernel
theorem dX11_readMethod_319 : decode cX11_readMethod 319 = .ok (.aload_n 0, 1) := by decide +kernel
theorem dX11_readMethod_320 : decode cX11_readMethod 320 = .ok (.getfield 77, 3) := by decide +kernel
theorem dX11_readMethod_323 : decode cX11_readMethod 323 = .ok (.aload_n 0, 1) := by decide +kernel
theorem dX11_readMethod_324 : decode cX11_readMethod 324 = .ok (.getfield 61, 3) := by decide +kernel
theorem dX11_readMethod_327 : decode cX11_readMethod 327 = .ok (.iload_n 1, 1) := by decide +kernel
theorem dX11_readMethod_328 : decode cX11_readMethod 328 = .ok (.iaload, 1) := by decide +kernel
theorem dX11_readMethod_329 : decode cX11_readMethod 329 = .ok (.iadd, 1) := by decide +kernel
theorem dX11_readMethod_330 : decode cX11_readMethod 330 = .ok (.istore 4, 2) := by decide +kernel
theorem dX11_readMethod_332 : decode cX11_readMethod 332 = .ok (.aload_n 0, 1) := by decide +kernel
theorem dX11_readMethod_333 : decode cX11_readMethod 333 = .ok (.getfield 77, 3) := by decide +kernel
theorem dX11_readMethod_336 : decode cX11_readMethod 336 = .ok (.iload 4, 2) := by decide +kernel
theorem dX11_readMethod_338 : decode cX11_readMethod 338 = .ok (.if_icmp .ge 15, 3) := by decide +kernel
theorem dX11_readMethod_341 : decode cX11_readMethod 341 = .ok (.aload_n 0, 1) := by decide +kernel
theorem dX11_readMethod_342 : decode cX11_readMethod 342 = .ok (.iload_n 1, 1) := by decide +kernel
theorem dX11_readMethod_343 : decode cX11_readMethod 343 = .ok (.iload 4, 2) := by decide +kernel
theorem dX11_readMethod_345 : decode cX11_readMethod 345 = .ok (.invokevirtual 109, 3) := by decide +kernel
theorem dX11_readMethod_348 : decode cX11_readMethod 348 = .ok (.ifCond .ne (-16), 3) := by decide +kernel
theorem dX11_readMethod_351 : decode cX11_readMethod 351 = .ok (.iconst 0, 1) := by decide +kernel
theorem dX11_readMethod_352 : decode cX11_readMethod 352 = .ok (.ireturn, 1) := by decide +kernel
theorem dX11_readMethod_353 : decode cX11_readMethod 353 = .ok (.aload_n 0, 1) := by decide +kernel
theorem dX11_readMethod_354 : decode cX11_readMethod 354 = .ok (.iconst 0, 1) := by decide +kernel
theorem dX11_readMethod_355 : decode cX11_readMethod 355 = .ok (.bipush 8, 2) := by decide +kernel
theorem dX11_readMethod_357 : decode cX11_readMethod 357 = .ok (.invokevirtual 94, 3) := by decide +kernel
theorem dX11_readMethod_360 : decode cX11_readMethod 360 = .ok (.ifCond .ne 5, 3) := by decide +kernel
theorem dX11_readMethod_363 : decode cX11_readMethod 363 = .ok (.iconst 0, 1) := by decide +kernel
theorem dX11_readMethod_364 : decode cX11_readMethod 364 = .ok (.ireturn, 1) := by decide +kernel
theorem dX11_readMethod_365 : decode cX11_readMethod 365 = .ok (.aload_n 0, 1) := by decide +kernel
theorem dX11_readMethod_366 : decode cX11_readMethod 366 = .ok (.getfield 64, 3) := by decide +kernel
theorem dX11_readMethod_369 : decode cX11_readMethod 369 = .ok (.iload_n 1, 1) := by decide +kernel
theorem dX11_readMethod_370 : decode cX11_readMethod 370 = .ok (.aload_n 0, 1) := by decide +kernel
theorem dX11_readMethod_371 : decode cX11_readMethod 371 = .ok (.invokevirtual 98, 3) := by decide +kernel
theorem dX11_readMethod_374 : decode cX11_readMethod 374 = .ok (.iastore, 1) := by decide +kernel
theorem dX11_readMethod_375 : decode cX11_readMethod 375 = .ok (.aload_n 0, 1) := by decide +kernel
theorem dX11_readMethod_376 : decode cX11_readMethod 376 = .ok (.getfield 67, 3) := by decide +kernel
theorem dX11_readMethod_379 : decode cX11_readMethod 379 = .ok (.iload_n 1, 1) := by decide +kernel
theorem dX11_readMethod_380 : decode cX11_readMethod 380 = .ok (.aload_n 0, 1) := by decide +kernel
theorem dX11_readMethod_381 : decode cX11_readMethod 381 = .ok (.getfield 77, 3) := by decide +kernel
theorem dX11_readMethod_384 : decode cX11_readMethod 384 = .ok (.iastore, 1) := by decide +kernel
theorem dX11_readMethod_385 : decode cX11_readMethod 385 = .ok (.iconst 0, 1) := by decide +kernel
theorem dX11_readMethod_386 : decode cX11_readMethod 386 = .ok (.istore 5, 2) := by decide +kernel
theorem dX11_readMethod_388 : decode cX11_readMethod 388 = .ok (.iload 5, 2) := by decide +kernel
theorem dX11_readMethod_390 : decode cX11_readMethod 390 = .ok (.aload_n 0, 1) := by decide +kernel
theorem dX11_readMethod_391 : decode cX11_readMethod 391 = .ok (.getfield 64, 3) := by decide +kernel
theorem dX11_readMethod_394 : decode cX11_readMethod 394 = .ok (.iload_n 1, 1) := by decide +kernel
theorem dX11_readMethod_395 : decode cX11_readMethod 395 = .ok (.iaload, 1) := by decide +kernel
theorem dX11_readMethod_396 : decode cX11_readMethod 396 = .ok (.if_icmp .ge 96, 3) := by decide +kernel
theorem dX11_readMethod_399 : decode cX11_readMethod 399 = .ok (.aload_n 0, 1) := by decide +kernel
theorem dX11_readMethod_400 : decode cX11_readMethod 400 = .ok (.iconst 0, 1) := by decide +kernel
theorem dX11_readMethod_401 : decode cX11_readMethod 401 = .ok (.sipush 255, 3) := by decide +kernel
theorem dX11_readMethod_404 : decode cX11_readMethod 404 = .ok (.invokevirtual 94, 3) := by decide +kernel
theorem dX11_readMethod_407 : decode cX11_readMethod 407 = .ok (.ifCond .eq 69, 3) := by decide +kernel
theorem dX11_readMethod_410 : decode cX11_readMethod 410 = .ok (.aload_n 0, 1) := by decide +kernel
theorem dX11_readMethod_411 : decode cX11_readMethod 411 = .ok (.iconst 0, 1) := by decide +kernel
theorem dX11_readMethod_412 : decode cX11_readMethod 412 = .ok (.sipush 255, 3) := by decide +kernel
theorem dX11_readMethod_415 : decode cX11_readMethod 415 = .ok (.invokevirtual 94, 3) := by decide +kernel
theorem dX11_readMethod_418 : decode cX11_readMethod 418 = .ok (.ifCond .eq 58, 3) := by decide +kernel
theorem dX11_readMethod_421 : decode cX11_readMethod 421 = .ok (.aload_n 0, 1) := by decide +kernel
theorem dX11_readMethod_422 : decode cX11_readMethod 422 = .ok (.iconst 0, 1) := by decide +kernel
theorem dX11_readMethod_423 : decode cX11_readMethod 423 = .ok (.sipush 255, 3) := by decide +kernel
theorem dX11_readMethod_426 : decode cX11_readMethod 426 = .ok (.invokevirtual 94, 3) := by decide +kernel
theorem dX11_readMethod_429 : decode cX11_readMethod 429 = .ok (.ifCond .eq 47, 3) := by decide +kernel
theorem dX11_readMethod_432 : decode cX11_readMethod 432 = .ok (.aload_n 0, 1) := by decide +kernel
theorem dX11_readMethod_433 : decode cX11_readMethod 433 = .ok (.iconst 0, 1) := by decide +kernel
theorem dX11_readMethod_434 : decode cX11_readMethod 434 = .ok (.sipush 255, 3) := by decide +kernel
theorem dX11_readMethod_437 : decode cX11_readMethod 437 = .ok (.invokevirtual 94, 3) := by decide +kernel
theorem dX11_readMethod_440 : decode cX11_readMethod 440 = .ok (.ifCond .eq 36, 3) := by decide +kernel
theorem dX11_readMethod_443 : decode cX11_readMethod 443 = .ok (.aload_n 0, 1) := by decide +kernel
theorem dX11_readMethod_444 : decode cX11_readMethod 444 = .ok (.invokevirtual 112, 3) := by decide +kernel
theorem dX11_readMethod_447 : decode cX11_readMethod 447 = .ok (.ifCond .eq 29, 3) := by decide +kernel
theorem dX11_readMethod_450 : decode cX11_readMethod 450 = .ok (.aload_n 0, 1) := by decide +kernel
theorem dX11_readMethod_451 : decode cX11_readMethod 451 = .ok (.iconst 0, 1) := by decide +kernel
theorem dX11_readMethod_452 : decode cX11_readMethod 452 = .ok (.sipush 255, 3) := by decide +kernel
theorem dX11_readMethod_455 : decode cX11_readMethod 455 = .ok (.invokevirtual 94, 3) := by decide +kernel
theorem dX11_readMethod_458 : decode cX11_readMethod 458 = .ok (.ifCond .eq 18, 3) := by decide +kernel
theorem dX11_readMethod_461 : decode cX11_readMethod 461 = .ok (.aload_n 0, 1) := by decide +kernel
theorem dX11_readMethod_462 : decode cX11_readMethod 462 = .ok (.iconst 0, 1) := by decide +kernel
theorem dX11_readMethod_463 : decode cX11_readMethod 463 = .ok (.sipush 255, 3) := by decide +kernel
theorem dX11_readMethod_466 : decode cX11_readMethod 466 = .ok (.invokevirtual 94, 3) := by decide +kernel
theorem dX11_readMethod_469 : decode cX11_readMethod 469 = .ok (.ifCond .eq 7, 3) := by decide +kernel
theorem dX11_readMethod_472 : decode cX11_readMethod 472 = .ok (.iconst 1, 1) := by decide +kernel
theorem dX11_readMethod_473 : decode cX11_readMethod 473 = .ok (.goto 4, 3) := by decide +kernel
theorem dX11_readMethod_476 : decode cX11_readMethod 476 = .ok (.iconst 0, 1) := by decide +kernel
theorem dX11_readMethod_477 : decode cX11_readMethod 477 = .ok (.istore 6, 2) := by decide +kernel
theorem dX11_readMethod_479 : decode cX11_readMethod 479 = .ok (.iload 6, 2) := by decide +kernel
theorem dX11_readMethod_481 : decode cX11_readMethod 481 = .ok (.ifCond .ne 5, 3) := by decide +kernel
theorem dX11_readMethod_484 : decode cX11_readMethod 484 = .ok (.iconst 0, 1) := by decide +kernel
theorem dX11_readMethod_485 : decode cX11_readMethod 485 = .ok (.ireturn, 1) := by decide +kernel
theorem dX11_readMethod_486 : decode cX11_readMethod 486 = .ok (.iinc 5 1, 3) := by decide +kernel
theorem dX11_readMethod_489 : decode cX11_readMethod 489 = .ok (.goto (-101), 3) := by decide +kernel
theorem dX11_readMethod_492 : decode cX11_readMethod 492 = .ok (.iconst 1, 1) := by decide +kernel
theorem dX11_readMethod_493 : decode cX11_readMethod 493 = .ok (.ireturn, 1) := by decide +kernel
def wp_X11_readMethod : List Cond := .code yX11_readMethod cX11_readMethod 7 (some .boolean) :: ((((((((([.fieldLink RX11 64 "SteadyMachineModel$Image" "handlerCounts" "[I", .fieldLink RX11 77 "SteadyMachineModel$Image" "place" "I", .fieldLink RX11 67 "SteadyMachineModel$Image" "handlerAt" "[I", .fieldLink RX11 61 "SteadyMachineModel$Image" "codeSizes" "[I", .fieldLink RX11 58 "SteadyMachineModel$Image" "codeAt" "[I", .fieldLink RX11 52 "SteadyMachineModel$Image" "locals" "[I", .fieldLink RX11 55 "SteadyMachineModel$Image" "stacks" "[I", .fieldLink RX11 43 "SteadyMachineModel$Image" "parameterCounts" "[I", .fieldLink RX11 49 "SteadyMachineModel$Image" "gives" "[I", .fieldLink RX11 46 "SteadyMachineModel$Image" "parameterTypes" "[I", .fieldLink RX11 40 "SteadyMachineModel$Image" "owners" "[I", .fieldLink RX11 91 "SteadyMachineModel$Image" "classes" "I"] ++ (wsV RX11 94 RX11 yX11_over wp_X11_over)) ++ (wsV RX11 112 RX11 yX11_overClass wp_X11_overClass)) ++ (wsV RX11 98 RX11 yX11_last wp_X11_last)) ++ (wsV RX11 109 RX11 yX11_readInstruction wp_X11_readInstruction)) ++ (wsV RX11 105 RX11 yX11_two wp_X11_two)) ++ (wsV RX11 101 RX11 yX11_overType wp_X11_overType)) ++ (wsV RX11 83 RX11 yX11_here wp_X11_here)) ++ (wsV RX11 87 RX11 yX11_bad wp_X11_bad)) ++ wsX110)
theorem wq_X11_readMethod : wp_X11_readMethod.all goodWord = true := wa_c rfl (wa_a (wa_a (wa_a (wa_a (wa_a (wa_a (wa_a (wa_a (wa_a (by decide +kernel) (wa_V wq_X11_over)) (wa_V wq_X11_overClass)) (wa_V wq_X11_last)) (wa_V wq_X11_readInstruction)) (wa_V wq_X11_two)) (wa_V wq_X11_overType)) (wa_V wq_X11_here)) (wa_V wq_X11_bad)) uq_X11)
theorem wt_X11_readMethod : GoodIn lw_tbl wp_X11_readMethod := wm_c (List.mem_of_getElem? (i := 1243) (by decide +kernel)) rfl (wm_a (wm_a (wm_a (wm_a (wm_a (wm_a (wm_a (wm_a (wm_a (goodIn_r _ [1422, 1388, 1424, 1420, 1418, 1414, 1416, 1408, 1412, 1410, 1407, 1392] (by decide +kernel) (by decide +kernel)) (wm_a (goodIn_r _ [1212, 1214, 69, 148] (by decide +kernel) (by decide +kernel)) wt_X11_over)) (wm_a (goodIn_r _ [1236, 1238, 75, 148] (by decide +kernel) (by decide +kernel)) wt_X11_overClass)) (wm_a (goodIn_r _ [1224, 1226, 72, 148] (by decide +kernel) (by decide +kernel)) wt_X11_last)) (wm_a (goodIn_r _ [1248, 1250, 78, 148] (by decide +kernel) (by decide +kernel)) wt_X11_readInstruction)) (wm_a (goodIn_r _ [1244, 1246, 77, 148] (by decide +kernel) (by decide +kernel)) wt_X11_two)) (wm_a (goodIn_r _ [1232, 1234, 74, 148] (by decide +kernel) (by decide +kernel)) wt_X11_overType)) (wm_a (goodIn_r _ [1216, 1218, 70, 148] (by decide +kernel) (by decide +kernel)) wt_X11_here)) (wm_a (goodIn_r _ [1220, 1222, 71, 148] (by decide +kernel) (by decide +kernel)) wt_X11_bad)) ut_X11)
theorem wg_X11_readMethod_X11_over_94 : GoodIn wp_X11_readMethod (wsV RX11 94 RX11 yX11_over wp_X11_over) := goodIn_sub (fun w h => List.mem_cons_of_mem _ (List.mem_append_left _ (List.mem_append_left _ (List.mem_append_left _ (List.mem_append_left _ (List.mem_append_left _ (List.mem_append_left _ (List.mem_append_left _ (List.mem_append_left _ (List.mem_append_right _ h)))))))))) (wa_V wq_X11_over)
theorem wg_X11_readMethod_X11_overClass_112 : GoodIn wp_X11_readMethod (wsV RX11 112 RX11 yX11_overClass wp_X11_overClass) := goodIn_sub (fun w h => List.mem_cons_of_mem _ (List.mem_append_left _ (List.mem_append_left _ (List.mem_append_left _ (List.mem_append_left _ (List.mem_append_left _ (List.mem_append_left _ (List.mem_append_left _ (List.mem_append_right _ h))))))))) (wa_V wq_X11_overClass)
theorem wg_X11_readMethod_X11_last_98 : GoodIn wp_X11_readMethod (wsV RX11 98 RX11 yX11_last wp_X11_last) := goodIn_sub (fun w h => List.mem_cons_of_mem _ (List.mem_append_left _ (List.mem_append_left _ (List.mem_append_left _ (List.mem_append_left _ (List.mem_append_left _ (List.mem_append_left _ (List.mem_append_right _ h)))))))) (wa_V wq_X11_last)
theorem wg_X11_readMethod_X11_readInstruction_109 : GoodIn wp_X11_readMethod (wsV RX11 109 RX11 yX11_readInstruction wp_X11_readInstruction) := goodIn_sub (fun w h => List.mem_cons_of_mem _ (List.mem_append_left _ (List.mem_append_left _ (List.mem_append_left _ (List.mem_append_left _ (List.mem_append_left _ (List.mem_append_right _ h))))))) (wa_V wq_X11_readInstruction)
theorem wg_X11_readMethod_X11_two_105 : GoodIn wp_X11_readMethod (wsV RX11 105 RX11 yX11_two wp_X11_two) := goodIn_sub (fun w h => List.mem_cons_of_mem _ (List.mem_append_left _ (List.mem_append_left _ (List.mem_append_left _ (List.mem_append_left _ (List.mem_append_right _ h)))))) (wa_V wq_X11_two)
theorem wg_X11_readMethod_X11_overType_101 : GoodIn wp_X11_readMethod (wsV RX11 101 RX11 yX11_overType wp_X11_overType) := goodIn_sub (fun w h => List.mem_cons_of_mem _ (List.mem_append_left _ (List.mem_append_left _ (List.mem_append_left _ (List.mem_append_right _ h))))) (wa_V wq_X11_overType)
theorem wg_X11_readMethod_X11_here_83 : GoodIn wp_X11_readMethod (wsV RX11 83 RX11 yX11_here wp_X11_here) := goodIn_sub (fun w h => List.mem_cons_of_mem _ (List.mem_append_left _ (List.mem_append_left _ (List.mem_append_right _ h)))) (wa_V wq_X11_here)
theorem wg_X11_readMethod_X11_bad_87 : GoodIn wp_X11_readMethod (wsV RX11 87 RX11 yX11_bad wp_X11_bad) := goodIn_sub (fun w h => List.mem_cons_of_mem _ (List.mem_append_left _ (List.mem_append_right _ h))) (wa_V wq_X11_bad)
theorem wi_X11_readMethod_X11 : ∀ w ∈ wsX110, w ∈ wp_X11_readMethod := fun w h => List.mem_cons_of_mem _ (List.mem_append_right _ h)
set_option maxHeartbeats 4000000 in
set_option maxRecDepth 100000 in
theorem c_X11_readMethod (l : Launch) (D : va_G) (sz t0 : Nat) (σ : sm_S) (α : sm_A) (p1 : Int32) (K : Int32 → sm_S → Prop) (hF : mp_X11_readMethod σ p1 K) : Met l yX11_readMethod wp_X11_readMethod { frames := 4, cells := 0, slots := 0, locals := 90 } (sm_P sm_wM sm_tM 40 D sz t0 σ α [.ref (α.1 0), .int p1]) (va_Qi K (sm_B sm_wM D α) (sm_a α 40 sz)) 0 0 (sm_a α 40 sz) := by
  refine Met.ofW (cc := cX11_readMethod) (maxL := 7) (ret := (some .boolean)) (by decide) rfl ?_
  intro p e s m args below meth c s₁ B hml hv
  obtain ⟨rfl, hsz, hP, hK, hD0, hE⟩ := hv
  have hx := B.exec
  have hb := B.bytes
  have hr := B.returns
  have hts := atoms_spec (ws := wp_X11_readMethod) B.pre
  have hown : s.vm.findClass RX11 = some m.cls := findClass_of_methodNamed B.named
  have hlocks := B.notSynchronized
  subst hsz
  have hD : sm_D (sm_a α 40 s.heap.size) α 40 := hD0.own
  have hA : ∀ q : Nat, s.heap.size ≤ q → sm_a α 40 s.heap.size q := fun q h => Or.inr h
  generalize hAe : sm_a α 40 s.heap.size = A at hD hA hE ⊢
  have hS : va_S A s.heap s.heap [] := va_S.rf
  have in_X11 : ∀ w ∈ wsX110, w ∈ wp_X11_readMethod := wi_X11_readMethod_X11
  have k_0 := hts (.fieldLink RX11 64 "SteadyMachineModel$Image" "handlerCounts" "[I") (by decide +kernel)
  have k_1 := hts (.fieldLink RX11 77 "SteadyMachineModel$Image" "place" "I") (by decide +kernel)
  have k_2 := hts (.fieldLink RX11 67 "SteadyMachineModel$Image" "handlerAt" "[I") (by decide +kernel)
  have k_3 := hts (.fieldLink RX11 61 "SteadyMachineModel$Image" "codeSizes" "[I") (by decide +kernel)
  have k_4 := hts (.fieldLink RX11 58 "SteadyMachineModel$Image" "codeAt" "[I") (by decide +kernel)
  have k_5 := hts (.fieldLink RX11 52 "SteadyMachineModel$Image" "locals" "[I") (by decide +kernel)
  have k_6 := hts (.fieldLink RX11 55 "SteadyMachineModel$Image" "stacks" "[I") (by decide +kernel)
  have k_7 := hts (.fieldLink RX11 43 "SteadyMachineModel$Image" "parameterCounts" "[I") (by decide +kernel)
  have k_8 := hts (.fieldLink RX11 49 "SteadyMachineModel$Image" "gives" "[I") (by decide +kernel)
  have k_9 := hts (.fieldLink RX11 46 "SteadyMachineModel$Image" "parameterTypes" "[I") (by decide +kernel)
  have k_10 := hts (.fieldLink RX11 40 "SteadyMachineModel$Image" "owners" "[I") (by decide +kernel)
  have k_11 := hts (.fieldLink RX11 91 "SteadyMachineModel$Image" "classes" "I") (by decide +kernel)
  have hl := lv_entry ([.ref (α.1 0), .int p1]) (n := 7) (Nat.le_of_ble_eq_true rfl)
  rw [lg_entry_eq]
  generalize (lg_sl ([.ref (α.1 0), .int p1]) ++ List.replicate (7 - (lg_sl ([.ref (α.1 0), .int p1])).length) Slot.unset).toArray = ls at hl ⊢
  have hl : lv_has ls 7 [(0, .ref (α.1 0)), (1, .int p1)] := hl
  have B477 : ∀ (L388 : sm_S → Int32 → Int32 → Prop) (hL388 : ∀ (σ : sm_S) (x1 : Int32) (x5 : Int32), L388 σ x1 x5 → sm_J p l e (headSpec wp_X11_readMethod { frames := 4, cells := 0, slots := 0, locals := 90 }).room s m ([.ref (α.1 0), .int p1] : List Value).toArray below meth c (MQ below (va_Qi K (sm_B sm_wM D α) A) ([.ref (α.1 0), .int p1] : List Value).toArray s 0 0 A) D A 7 (sm_wM σ α) 388 [(0, .ref (α.1 0)), (1, .int x1), (5, .int x5)] []) (σ : sm_S) (x1 : Int32) (x5 : Int32) (y0 : Int32), mp_X11_readMethod_477 L388 K σ x1 x5 y0 → sm_J p l e (headSpec wp_X11_readMethod { frames := 4, cells := 0, slots := 0, locals := 90 }).room s m ([.ref (α.1 0), .int p1] : List Value).toArray below meth c (MQ below (va_Qi K (sm_B sm_wM D α) A) ([.ref (α.1 0), .int p1] : List Value).toArray s 0 0 A) D A 7 (sm_wM σ α) 477 [(0, .ref (α.1 0)), (1, .int x1), (5, .int x5)] [.int y0] := by
    intro L388 hL388 σ x1 x5 y0 hF H locs ls hP hS hl
    unfold mp_X11_readMethod_477 at hF
    refine lv_istore (lv' := [(6, .int y0), (0, .ref (α.1 0)), (1, .int x1), (5, .int x5)]) hx hb dX11_readMethod_477 hl (by decide) rfl (fun ls hl => ?_)
    refine lv_iload hx hb dX11_readMethod_479 (lv_at hl 0 rfl) ?_
    refine lv_if_ne (tgt := 486) hx hb dX11_readMethod_481 (by decide) (fun h1 => ?_) (fun h1 => ?_)
    · replace hF := hF.1 h1
      obtain ⟨v2, ev2⟩ : ∃ y : Int32, y = x5 + 1 := ⟨_, rfl⟩
      replace hF := hF v2 ev2
      refine lv_iinc (v := v2) (lv' := [(5, .int v2), (6, .int y0), (0, .ref (α.1 0)), (1, .int x1)]) hx hb dX11_readMethod_486 hl (k := 3) rfl (by rw [ev2]; rfl) (by decide) rfl (fun ls hl => ?_)
      refine lv_goto (tgt := 388) hx hb dX11_readMethod_489 (by decide) ?_
      exact hL388 σ x1 v2 hF H locs ls hP hS (lv_sub hl [2, 3, 0] rfl)
    · replace hF := hF.2 h1
      refine lv_iconst (v := 0) hx hb dX11_readMethod_484 (by decide) ?_
      exact W.zret (v := 0) hx hb hr sm_z0.1 (fun t ht hW => ⟨⟨0, σ, rfl, hF, (by unfold sm_B; rw [ht]; exact hP)⟩, hS.F ht⟩) hS.2.2 dX11_readMethod_485
  have B476 : ∀ (L388 : sm_S → Int32 → Int32 → Prop) (hL388 : ∀ (σ : sm_S) (x1 : Int32) (x5 : Int32), L388 σ x1 x5 → sm_J p l e (headSpec wp_X11_readMethod { frames := 4, cells := 0, slots := 0, locals := 90 }).room s m ([.ref (α.1 0), .int p1] : List Value).toArray below meth c (MQ below (va_Qi K (sm_B sm_wM D α) A) ([.ref (α.1 0), .int p1] : List Value).toArray s 0 0 A) D A 7 (sm_wM σ α) 388 [(0, .ref (α.1 0)), (1, .int x1), (5, .int x5)] []) (σ : sm_S) (x1 : Int32) (x5 : Int32), mp_X11_readMethod_476 L388 K σ x1 x5 → sm_J p l e (headSpec wp_X11_readMethod { frames := 4, cells := 0, slots := 0, locals := 90 }).room s m ([.ref (α.1 0), .int p1] : List Value).toArray below meth c (MQ below (va_Qi K (sm_B sm_wM D α) A) ([.ref (α.1 0), .int p1] : List Value).toArray s 0 0 A) D A 7 (sm_wM σ α) 476 [(0, .ref (α.1 0)), (1, .int x1), (5, .int x5)] [] := by
    intro L388 hL388 σ x1 x5 hF H locs ls hP hS hl
    unfold mp_X11_readMethod_476 at hF
    refine lv_iconst (v := 0) hx hb dX11_readMethod_476 (by decide) ?_
    exact B477 L388 hL388 σ x1 x5 0 hF H locs ls hP hS (lv_sub hl [0, 1, 2] rfl)
  have B388 : ∀ (n : Nat) (σ : sm_S) (x1 : Int32) (x5 : Int32), mp_X11_readMethod_388 K n σ x1 x5 → sm_J p l e (headSpec wp_X11_readMethod { frames := 4, cells := 0, slots := 0, locals := 90 }).room s m ([.ref (α.1 0), .int p1] : List Value).toArray below meth c (MQ below (va_Qi K (sm_B sm_wM D α) A) ([.ref (α.1 0), .int p1] : List Value).toArray s 0 0 A) D A 7 (sm_wM σ α) 388 [(0, .ref (α.1 0)), (1, .int x1), (5, .int x5)] [] := by
    intro n388
    induction n388 with
    | zero =>
      intro σ x1 x5 hF
      exact hF.elim
    | succ n388 ih388 =>
      intro σ x1 x5 hF H locs ls hP hS hl
      unfold mp_X11_readMethod_388 at hF
      refine lv_iload hx hb dX11_readMethod_388 (lv_at hl 2 rfl) ?_
      refine lv_aload_n hx hb dX11_readMethod_390 rfl (lv_at hl 0 rfl) ?_
      refine va_get (D := D) (ci := 11) (v := .ref (α.1 19)) (C := RX11) (T := TX11) (N := 28) hx hb hts in_X11 hown hK hP 0 (sm_gX11 σ α) rfl 24 (by decide) k_0 (fun _ h9 => h9) rfl dX11_readMethod_391 ?_
      refine lv_iload_n hx hb dX11_readMethod_394 rfl (lv_at hl 1 rfl) ?_
      obtain ⟨h3, hF⟩ := hF
      refine va_iald (n := (σ.2.2.1 19)) (f := (σ.2.2.2.1 19)) hx hb hK hP 19 17 (sm_aM19 σ α) (sm_yM19 α) h3 dX11_readMethod_395 ?_
      refine lv_icmp_ge (tgt := 492) hx hb dX11_readMethod_396 (by decide) (fun h4 => ?_) (fun h4 => ?_)
      · replace hF := hF.1 h4
        refine lv_iconst (v := 1) hx hb dX11_readMethod_492 (by decide) ?_
        exact W.zret (v := 1) hx hb hr sm_z1.1 (fun t ht hW => ⟨⟨1, σ, rfl, hF, (by unfold sm_B; rw [ht]; exact hP)⟩, hS.F ht⟩) hS.2.2 dX11_readMethod_493
      · replace hF := hF.2 h4
        refine lv_aload_n hx hb dX11_readMethod_399 rfl (lv_at hl 0 rfl) ?_
        refine lv_iconst (v := 0) hx hb dX11_readMethod_400 (by decide) ?_
        refine lv_sipush (v := 255) hx hb dX11_readMethod_401 (by decide) ?_
        refine sm_vi (As := [.int 0, .int 255]) (rest := []) hP hK hD hE hS hA ⟨hx, hb, hml, hown, hts⟩ hl.1 (c_X11_over l D H.size t0 σ α 0 255 _ hF) (cwV 2 hts wg_X11_readMethod_X11_over_94 rfl rfl rfl (by decide +kernel) ⟨Nat.le_of_ble_eq_true rfl, Nat.le_of_ble_eq_true rfl⟩) (va_recv hK hP (ci := 11) (q0 := 0) rfl (sm_gX11 σ α)) rfl rfl (Nat.le_of_ble_eq_true rfl) dX11_readMethod_404 ⟨Nat.zero_le _, Nat.zero_le _⟩ (fun r6 σ5 H locs hF hP hS => ?_)
        refine lv_if_eq (tgt := 476) hx hb dX11_readMethod_407 (by decide) (fun h7 => ?_) (fun h7 => ?_)
        · replace hF := hF.1 h7
          exact B476 (mp_X11_readMethod_388 K n388) ih388 σ5 x1 x5 hF H locs ls hP hS (lv_sub hl [0, 1, 2] rfl)
        · replace hF := hF.2 h7
          refine lv_aload_n hx hb dX11_readMethod_410 rfl (lv_at hl 0 rfl) ?_
          refine lv_iconst (v := 0) hx hb dX11_readMethod_411 (by decide) ?_
          refine lv_sipush (v := 255) hx hb dX11_readMethod_412 (by decide) ?_
          refine sm_vi (As := [.int 0, .int 255]) (rest := []) hP hK hD hE hS hA ⟨hx, hb, hml, hown, hts⟩ hl.1 (c_X11_over l D H.size t0 σ5 α 0 255 _ hF) (cwV 2 hts wg_X11_readMethod_X11_over_94 rfl rfl rfl (by decide +kernel) ⟨Nat.le_of_ble_eq_true rfl, Nat.le_of_ble_eq_true rfl⟩) (va_recv hK hP (ci := 11) (q0 := 0) rfl (sm_gX11 σ5 α)) rfl rfl (Nat.le_of_ble_eq_true rfl) dX11_readMethod_415 ⟨Nat.zero_le _, Nat.zero_le _⟩ (fun r9 σ8 H locs hF hP hS => ?_)
          refine lv_if_eq (tgt := 476) hx hb dX11_readMethod_418 (by decide) (fun h10 => ?_) (fun h10 => ?_)
          · replace hF := hF.1 h10
            exact B476 (mp_X11_readMethod_388 K n388) ih388 σ8 x1 x5 hF H locs ls hP hS (lv_sub hl [0, 1, 2] rfl)
          · replace hF := hF.2 h10
            refine lv_aload_n hx hb dX11_readMethod_421 rfl (lv_at hl 0 rfl) ?_
            refine lv_iconst (v := 0) hx hb dX11_readMethod_422 (by decide) ?_
            refine lv_sipush (v := 255) hx hb dX11_readMethod_423 (by decide) ?_
            refine sm_vi (As := [.int 0, .int 255]) (rest := []) hP hK hD hE hS hA ⟨hx, hb, hml, hown, hts⟩ hl.1 (c_X11_over l D H.size t0 σ8 α 0 255 _ hF) (cwV 2 hts wg_X11_readMethod_X11_over_94 rfl rfl rfl (by decide +kernel) ⟨Nat.le_of_ble_eq_true rfl, Nat.le_of_ble_eq_true rfl⟩) (va_recv hK hP (ci := 11) (q0 := 0) rfl (sm_gX11 σ8 α)) rfl rfl (Nat.le_of_ble_eq_true rfl) dX11_readMethod_426 ⟨Nat.zero_le _, Nat.zero_le _⟩ (fun r12 σ11 H locs hF hP hS => ?_)
            refine lv_if_eq (tgt := 476) hx hb dX11_readMethod_429 (by decide) (fun h13 => ?_) (fun h13 => ?_)
            · replace hF := hF.1 h13
              exact B476 (mp_X11_readMethod_388 K n388) ih388 σ11 x1 x5 hF H locs ls hP hS (lv_sub hl [0, 1, 2] rfl)
            · replace hF := hF.2 h13
              refine lv_aload_n hx hb dX11_readMethod_432 rfl (lv_at hl 0 rfl) ?_
              refine lv_iconst (v := 0) hx hb dX11_readMethod_433 (by decide) ?_
              refine lv_sipush (v := 255) hx hb dX11_readMethod_434 (by decide) ?_
              refine sm_vi (As := [.int 0, .int 255]) (rest := []) hP hK hD hE hS hA ⟨hx, hb, hml, hown, hts⟩ hl.1 (c_X11_over l D H.size t0 σ11 α 0 255 _ hF) (cwV 2 hts wg_X11_readMethod_X11_over_94 rfl rfl rfl (by decide +kernel) ⟨Nat.le_of_ble_eq_true rfl, Nat.le_of_ble_eq_true rfl⟩) (va_recv hK hP (ci := 11) (q0 := 0) rfl (sm_gX11 σ11 α)) rfl rfl (Nat.le_of_ble_eq_true rfl) dX11_readMethod_437 ⟨Nat.zero_le _, Nat.zero_le _⟩ (fun r15 σ14 H locs hF hP hS => ?_)
              refine lv_if_eq (tgt := 476) hx hb dX11_readMethod_440 (by decide) (fun h16 => ?_) (fun h16 => ?_)
              · replace hF := hF.1 h16
                exact B476 (mp_X11_readMethod_388 K n388) ih388 σ14 x1 x5 hF H locs ls hP hS (lv_sub hl [0, 1, 2] rfl)
              · replace hF := hF.2 h16
                refine lv_aload_n hx hb dX11_readMethod_443 rfl (lv_at hl 0 rfl) ?_
                refine sm_vi (As := []) (rest := []) hP hK hD hE hS hA ⟨hx, hb, hml, hown, hts⟩ hl.1 (c_X11_overClass l D H.size t0 σ14 α _ hF) (cwV 0 hts wg_X11_readMethod_X11_overClass_112 rfl rfl rfl (by decide +kernel) ⟨Nat.le_of_ble_eq_true rfl, Nat.le_of_ble_eq_true rfl⟩) (va_recv hK hP (ci := 11) (q0 := 0) rfl (sm_gX11 σ14 α)) rfl rfl (Nat.le_of_ble_eq_true rfl) dX11_readMethod_444 ⟨Nat.zero_le _, Nat.zero_le _⟩ (fun r18 σ17 H locs hF hP hS => ?_)
                refine lv_if_eq (tgt := 476) hx hb dX11_readMethod_447 (by decide) (fun h19 => ?_) (fun h19 => ?_)
                · replace hF := hF.1 h19
                  exact B476 (mp_X11_readMethod_388 K n388) ih388 σ17 x1 x5 hF H locs ls hP hS (lv_sub hl [0, 1, 2] rfl)
                · replace hF := hF.2 h19
                  refine lv_aload_n hx hb dX11_readMethod_450 rfl (lv_at hl 0 rfl) ?_
                  refine lv_iconst (v := 0) hx hb dX11_readMethod_451 (by decide) ?_
                  refine lv_sipush (v := 255) hx hb dX11_readMethod_452 (by decide) ?_
                  refine sm_vi (As := [.int 0, .int 255]) (rest := []) hP hK hD hE hS hA ⟨hx, hb, hml, hown, hts⟩ hl.1 (c_X11_over l D H.size t0 σ17 α 0 255 _ hF) (cwV 2 hts wg_X11_readMethod_X11_over_94 rfl rfl rfl (by decide +kernel) ⟨Nat.le_of_ble_eq_true rfl, Nat.le_of_ble_eq_true rfl⟩) (va_recv hK hP (ci := 11) (q0 := 0) rfl (sm_gX11 σ17 α)) rfl rfl (Nat.le_of_ble_eq_true rfl) dX11_readMethod_455 ⟨Nat.zero_le _, Nat.zero_le _⟩ (fun r21 σ20 H locs hF hP hS => ?_)
                  refine lv_if_eq (tgt := 476) hx hb dX11_readMethod_458 (by decide) (fun h22 => ?_) (fun h22 => ?_)
                  · replace hF := hF.1 h22
                    exact B476 (mp_X11_readMethod_388 K n388) ih388 σ20 x1 x5 hF H locs ls hP hS (lv_sub hl [0, 1, 2] rfl)
                  · replace hF := hF.2 h22
                    refine lv_aload_n hx hb dX11_readMethod_461 rfl (lv_at hl 0 rfl) ?_
                    refine lv_iconst (v := 0) hx hb dX11_readMethod_462 (by decide) ?_
                    refine lv_sipush (v := 255) hx hb dX11_readMethod_463 (by decide) ?_
                    refine sm_vi (As := [.int 0, .int 255]) (rest := []) hP hK hD hE hS hA ⟨hx, hb, hml, hown, hts⟩ hl.1 (c_X11_over l D H.size t0 σ20 α 0 255 _ hF) (cwV 2 hts wg_X11_readMethod_X11_over_94 rfl rfl rfl (by decide +kernel) ⟨Nat.le_of_ble_eq_true rfl, Nat.le_of_ble_eq_true rfl⟩) (va_recv hK hP (ci := 11) (q0 := 0) rfl (sm_gX11 σ20 α)) rfl rfl (Nat.le_of_ble_eq_true rfl) dX11_readMethod_466 ⟨Nat.zero_le _, Nat.zero_le _⟩ (fun r24 σ23 H locs hF hP hS => ?_)
                    refine lv_if_eq (tgt := 476) hx hb dX11_readMethod_469 (by decide) (fun h25 => ?_) (fun h25 => ?_)
                    · replace hF := hF.1 h25
                      exact B476 (mp_X11_readMethod_388 K n388) ih388 σ23 x1 x5 hF H locs ls hP hS (lv_sub hl [0, 1, 2] rfl)
                    · replace hF := hF.2 h25
                      refine lv_iconst (v := 1) hx hb dX11_readMethod_472 (by decide) ?_
                      refine lv_goto (tgt := 477) hx hb dX11_readMethod_473 (by decide) ?_
                      exact B477 (mp_X11_readMethod_388 K n388) ih388 σ23 x1 x5 1 hF H locs ls hP hS (lv_sub hl [0, 1, 2] rfl)
  have B332 : ∀ (n : Nat) (σ : sm_S) (x1 : Int32) (x4 : Int32), mp_X11_readMethod_332 K n σ x1 x4 → sm_J p l e (headSpec wp_X11_readMethod { frames := 4, cells := 0, slots := 0, locals := 90 }).room s m ([.ref (α.1 0), .int p1] : List Value).toArray below meth c (MQ below (va_Qi K (sm_B sm_wM D α) A) ([.ref (α.1 0), .int p1] : List Value).toArray s 0 0 A) D A 7 (sm_wM σ α) 332 [(0, .ref (α.1 0)), (1, .int x1), (4, .int x4)] [] := by
    intro n332
    induction n332 with
    | zero =>
      intro σ x1 x4 hF
      exact hF.elim
    | succ n332 ih332 =>
      intro σ x1 x4 hF H locs ls hP hS hl
      unfold mp_X11_readMethod_332 at hF
      refine lv_aload_n hx hb dX11_readMethod_332 rfl (lv_at hl 0 rfl) ?_
      refine va_get (D := D) (ci := 11) (v := .int (σ.1 2)) (C := RX11) (T := TX11) (N := 28) hx hb hts in_X11 hown hK hP 0 (sm_gX11 σ α) rfl 5 (by decide) k_1 (fun _ h9 => h9) rfl dX11_readMethod_333 ?_
      refine lv_iload hx hb dX11_readMethod_336 (lv_at hl 2 rfl) ?_
      refine lv_icmp_ge (tgt := 353) hx hb dX11_readMethod_338 (by decide) (fun h26 => ?_) (fun h26 => ?_)
      · replace hF := hF.1 h26
        refine lv_aload_n hx hb dX11_readMethod_353 rfl (lv_at hl 0 rfl) ?_
        refine lv_iconst (v := 0) hx hb dX11_readMethod_354 (by decide) ?_
        refine lv_bipush (v := 8) hx hb dX11_readMethod_355 (by decide) ?_
        refine sm_vi (As := [.int 0, .int 8]) (rest := []) hP hK hD hE hS hA ⟨hx, hb, hml, hown, hts⟩ hl.1 (c_X11_over l D H.size t0 σ α 0 8 _ hF) (cwV 2 hts wg_X11_readMethod_X11_over_94 rfl rfl rfl (by decide +kernel) ⟨Nat.le_of_ble_eq_true rfl, Nat.le_of_ble_eq_true rfl⟩) (va_recv hK hP (ci := 11) (q0 := 0) rfl (sm_gX11 σ α)) rfl rfl (Nat.le_of_ble_eq_true rfl) dX11_readMethod_357 ⟨Nat.zero_le _, Nat.zero_le _⟩ (fun r28 σ27 H locs hF hP hS => ?_)
        refine lv_if_ne (tgt := 365) hx hb dX11_readMethod_360 (by decide) (fun h29 => ?_) (fun h29 => ?_)
        · replace hF := hF.1 h29
          refine lv_aload_n hx hb dX11_readMethod_365 rfl (lv_at hl 0 rfl) ?_
          refine va_get (D := D) (ci := 11) (v := .ref (α.1 19)) (C := RX11) (T := TX11) (N := 28) hx hb hts in_X11 hown hK hP 0 (sm_gX11 σ27 α) rfl 24 (by decide) k_0 (fun _ h9 => h9) rfl dX11_readMethod_366 ?_
          refine lv_iload_n hx hb dX11_readMethod_369 rfl (lv_at hl 1 rfl) ?_
          refine lv_aload_n hx hb dX11_readMethod_370 rfl (lv_at hl 0 rfl) ?_
          refine sm_vi (As := []) (rest := [.int x1, .ref (α.1 19)]) hP hK hD hE hS hA ⟨hx, hb, hml, hown, hts⟩ hl.1 (c_X11_last l D H.size t0 σ27 α _ hF) (cwV 0 hts wg_X11_readMethod_X11_last_98 rfl rfl rfl (by decide +kernel) ⟨Nat.le_of_ble_eq_true rfl, Nat.le_of_ble_eq_true rfl⟩) (va_recv hK hP (ci := 11) (q0 := 0) rfl (sm_gX11 σ27 α)) rfl rfl (Nat.le_of_ble_eq_true rfl) dX11_readMethod_371 ⟨Nat.zero_le _, Nat.zero_le _⟩ (fun r31 σ30 H locs hF hP hS => ?_)
          obtain ⟨h32, hF⟩ := hF
          refine va_iast (n := (σ30.2.2.1 19)) (f := (σ30.2.2.2.1 19)) (x := r31) hx hb hK hP (hD.to (sm_wM_m _ _)) hS 19 17 (sm_aM19 σ30 α) (sm_yM19 α) h32 dX11_readMethod_374 (fun H locs hP _ hS => ?_)
          rw [sm_rM19] at hP
          obtain ⟨σ33, eσ33⟩ : ∃ x : sm_S, x = sm_r σ30 19 (upd (σ30.2.2.2.1 19) x1.toNatClampNeg r31) := ⟨_, rfl⟩
          replace hF := hF σ33 eσ33
          rw [← eσ33] at hP
          refine lv_aload_n hx hb dX11_readMethod_375 rfl (lv_at hl 0 rfl) ?_
          refine va_get (D := D) (ci := 11) (v := .ref (α.1 20)) (C := RX11) (T := TX11) (N := 28) hx hb hts in_X11 hown hK hP 0 (sm_gX11 σ33 α) rfl 25 (by decide) k_2 (fun _ h9 => h9) rfl dX11_readMethod_376 ?_
          refine lv_iload_n hx hb dX11_readMethod_379 rfl (lv_at hl 1 rfl) ?_
          refine lv_aload_n hx hb dX11_readMethod_380 rfl (lv_at hl 0 rfl) ?_
          refine va_get (D := D) (ci := 11) (v := .int (σ33.1 2)) (C := RX11) (T := TX11) (N := 28) hx hb hts in_X11 hown hK hP 0 (sm_gX11 σ33 α) rfl 5 (by decide) k_1 (fun _ h9 => h9) rfl dX11_readMethod_381 ?_
          obtain ⟨h34, hF⟩ := hF
          refine va_iast (n := (σ33.2.2.1 20)) (f := (σ33.2.2.2.1 20)) (x := (σ33.1 2)) hx hb hK hP (hD.to (sm_wM_m _ _)) hS 20 18 (sm_aM20 σ33 α) (sm_yM20 α) h34 dX11_readMethod_384 (fun H locs hP _ hS => ?_)
          rw [sm_rM20] at hP
          obtain ⟨σ35, eσ35⟩ : ∃ x : sm_S, x = sm_r σ33 20 (upd (σ33.2.2.2.1 20) x1.toNatClampNeg (σ33.1 2)) := ⟨_, rfl⟩
          replace hF := hF σ35 eσ35
          rw [← eσ35] at hP
          refine lv_iconst (v := 0) hx hb dX11_readMethod_385 (by decide) ?_
          refine lv_istore (lv' := [(5, .int 0), (0, .ref (α.1 0)), (1, .int x1), (4, .int x4)]) hx hb dX11_readMethod_386 hl (by decide) rfl (fun ls hl => ?_)
          obtain ⟨n388, hF⟩ := hF
          exact B388 n388 σ35 x1 0 hF H locs ls hP hS (lv_sub hl [1, 2, 0] rfl)
        · replace hF := hF.2 h29
          refine lv_iconst (v := 0) hx hb dX11_readMethod_363 (by decide) ?_
          exact W.zret (v := 0) hx hb hr sm_z0.1 (fun t ht hW => ⟨⟨0, σ27, rfl, hF, (by unfold sm_B; rw [ht]; exact hP)⟩, hS.F ht⟩) hS.2.2 dX11_readMethod_364
      · replace hF := hF.2 h26
        refine lv_aload_n hx hb dX11_readMethod_341 rfl (lv_at hl 0 rfl) ?_
        refine lv_iload_n hx hb dX11_readMethod_342 rfl (lv_at hl 1 rfl) ?_
        refine lv_iload hx hb dX11_readMethod_343 (lv_at hl 2 rfl) ?_
        refine sm_vi (As := [.int x1, .int x4]) (rest := []) hP hK hD hE hS hA ⟨hx, hb, hml, hown, hts⟩ hl.1 (c_X11_readInstruction l D H.size t0 σ α x1 x4 _ hF) (cwV 2 hts wg_X11_readMethod_X11_readInstruction_109 rfl rfl rfl (by decide +kernel) ⟨Nat.le_of_ble_eq_true rfl, Nat.le_of_ble_eq_true rfl⟩) (va_recv hK hP (ci := 11) (q0 := 0) rfl (sm_gX11 σ α)) rfl rfl (Nat.le_of_ble_eq_true rfl) dX11_readMethod_345 ⟨Nat.zero_le _, Nat.zero_le _⟩ (fun r37 σ36 H locs hF hP hS => ?_)
        refine lv_if_ne (tgt := 332) hx hb dX11_readMethod_348 (by decide) (fun h38 => ?_) (fun h38 => ?_)
        · replace hF := hF.1 h38
          exact ih332 σ36 x1 x4 hF H locs ls hP hS (lv_sub hl [0, 1, 2] rfl)
        · replace hF := hF.2 h38
          refine lv_iconst (v := 0) hx hb dX11_readMethod_351 (by decide) ?_
          exact W.zret (v := 0) hx hb hr sm_z0.1 (fun t ht hW => ⟨⟨0, σ36, rfl, hF, (by unfold sm_B; rw [ht]; exact hP)⟩, hS.F ht⟩) hS.2.2 dX11_readMethod_352
  have B291 : ∀ (σ : sm_S), mp_X11_readMethod_291 K σ → sm_J p l e (headSpec wp_X11_readMethod { frames := 4, cells := 0, slots := 0, locals := 90 }).room s m ([.ref (α.1 0), .int p1] : List Value).toArray below meth c (MQ below (va_Qi K (sm_B sm_wM D α) A) ([.ref (α.1 0), .int p1] : List Value).toArray s 0 0 A) D A 7 (sm_wM σ α) 291 [] [] := by
    intro σ hF H locs ls hP hS hl
    unfold mp_X11_readMethod_291 at hF
    refine lv_iconst (v := 0) hx hb dX11_readMethod_291 (by decide) ?_
    exact W.zret (v := 0) hx hb hr sm_z0.1 (fun t ht hW => ⟨⟨0, σ, rfl, hF, (by unfold sm_B; rw [ht]; exact hP)⟩, hS.F ht⟩) hS.2.2 dX11_readMethod_292
  have B285 : ∀ (σ : sm_S) (x1 : Int32) (y1 : Int32) (y2 : Int32), mp_X11_readMethod_285 K σ x1 y1 y2 → sm_J p l e (headSpec wp_X11_readMethod { frames := 4, cells := 0, slots := 0, locals := 90 }).room s m ([.ref (α.1 0), .int p1] : List Value).toArray below meth c (MQ below (va_Qi K (sm_B sm_wM D α) A) ([.ref (α.1 0), .int p1] : List Value).toArray s 0 0 A) D A 7 (sm_wM σ α) 285 [(0, .ref (α.1 0)), (1, .int x1)] [.int y2, .int y1, .ref (α.1 0)] := by
    intro σ x1 y1 y2 hF H locs ls hP hS hl
    unfold mp_X11_readMethod_285 at hF
    refine sm_vi (As := [.int y1, .int y2]) (rest := []) hP hK hD hE hS hA ⟨hx, hb, hml, hown, hts⟩ hl.1 (c_X11_over l D H.size t0 σ α y1 y2 _ hF) (cwV 2 hts wg_X11_readMethod_X11_over_94 rfl rfl rfl (by decide +kernel) ⟨Nat.le_of_ble_eq_true rfl, Nat.le_of_ble_eq_true rfl⟩) (va_recv hK hP (ci := 11) (q0 := 0) rfl (sm_gX11 σ α)) rfl rfl (Nat.le_of_ble_eq_true rfl) dX11_readMethod_285 ⟨Nat.zero_le _, Nat.zero_le _⟩ (fun r40 σ39 H locs hF hP hS => ?_)
    refine lv_if_ne (tgt := 293) hx hb dX11_readMethod_288 (by decide) (fun h41 => ?_) (fun h41 => ?_)
    · replace hF := hF.1 h41
      refine lv_aload_n hx hb dX11_readMethod_293 rfl (lv_at hl 0 rfl) ?_
      refine va_get (D := D) (ci := 11) (v := .ref (α.1 18)) (C := RX11) (T := TX11) (N := 28) hx hb hts in_X11 hown hK hP 0 (sm_gX11 σ39 α) rfl 23 (by decide) k_3 (fun _ h9 => h9) rfl dX11_readMethod_294 ?_
      refine lv_iload_n hx hb dX11_readMethod_297 rfl (lv_at hl 1 rfl) ?_
      refine lv_aload_n hx hb dX11_readMethod_298 rfl (lv_at hl 0 rfl) ?_
      refine lv_aload_n hx hb dX11_readMethod_299 rfl (lv_at hl 0 rfl) ?_
      refine va_get (D := D) (ci := 11) (v := .int (σ39.1 2)) (C := RX11) (T := TX11) (N := 28) hx hb hts in_X11 hown hK hP 0 (sm_gX11 σ39 α) rfl 5 (by decide) k_1 (fun _ h9 => h9) rfl dX11_readMethod_300 ?_
      refine lv_iconst (v := 2) hx hb dX11_readMethod_303 (by decide) ?_
      refine lv_isub hx hb dX11_readMethod_304 ?_
      refine sm_vi (As := [.int ((σ39.1 2) - 2)]) (rest := [.int x1, .ref (α.1 18)]) hP hK hD hE hS hA ⟨hx, hb, hml, hown, hts⟩ hl.1 (c_X11_two l D H.size t0 σ39 α ((σ39.1 2) - 2) _ hF) (cwV 1 hts wg_X11_readMethod_X11_two_105 rfl rfl rfl (by decide +kernel) ⟨Nat.le_of_ble_eq_true rfl, Nat.le_of_ble_eq_true rfl⟩) (va_recv hK hP (ci := 11) (q0 := 0) rfl (sm_gX11 σ39 α)) rfl rfl (Nat.le_of_ble_eq_true rfl) dX11_readMethod_305 ⟨Nat.zero_le _, Nat.zero_le _⟩ (fun r43 σ42 H locs hF hP hS => ?_)
      obtain ⟨h44, hF⟩ := hF
      refine va_iast (n := (σ42.2.2.1 18)) (f := (σ42.2.2.2.1 18)) (x := r43) hx hb hK hP (hD.to (sm_wM_m _ _)) hS 18 16 (sm_aM18 σ42 α) (sm_yM18 α) h44 dX11_readMethod_308 (fun H locs hP _ hS => ?_)
      rw [sm_rM18] at hP
      obtain ⟨σ45, eσ45⟩ : ∃ x : sm_S, x = sm_r σ42 18 (upd (σ42.2.2.2.1 18) x1.toNatClampNeg r43) := ⟨_, rfl⟩
      replace hF := hF σ45 eσ45
      rw [← eσ45] at hP
      refine lv_aload_n hx hb dX11_readMethod_309 rfl (lv_at hl 0 rfl) ?_
      refine va_get (D := D) (ci := 11) (v := .ref (α.1 17)) (C := RX11) (T := TX11) (N := 28) hx hb hts in_X11 hown hK hP 0 (sm_gX11 σ45 α) rfl 22 (by decide) k_4 (fun _ h9 => h9) rfl dX11_readMethod_310 ?_
      refine lv_iload_n hx hb dX11_readMethod_313 rfl (lv_at hl 1 rfl) ?_
      refine lv_aload_n hx hb dX11_readMethod_314 rfl (lv_at hl 0 rfl) ?_
      refine va_get (D := D) (ci := 11) (v := .int (σ45.1 2)) (C := RX11) (T := TX11) (N := 28) hx hb hts in_X11 hown hK hP 0 (sm_gX11 σ45 α) rfl 5 (by decide) k_1 (fun _ h9 => h9) rfl dX11_readMethod_315 ?_
      obtain ⟨h46, hF⟩ := hF
      refine va_iast (n := (σ45.2.2.1 17)) (f := (σ45.2.2.2.1 17)) (x := (σ45.1 2)) hx hb hK hP (hD.to (sm_wM_m _ _)) hS 17 15 (sm_aM17 σ45 α) (sm_yM17 α) h46 dX11_readMethod_318 (fun H locs hP _ hS => ?_)
      rw [sm_rM17] at hP
      obtain ⟨σ47, eσ47⟩ : ∃ x : sm_S, x = sm_r σ45 17 (upd (σ45.2.2.2.1 17) x1.toNatClampNeg (σ45.1 2)) := ⟨_, rfl⟩
      replace hF := hF σ47 eσ47
      rw [← eσ47] at hP
      refine lv_aload_n hx hb dX11_readMethod_319 rfl (lv_at hl 0 rfl) ?_
      refine va_get (D := D) (ci := 11) (v := .int (σ47.1 2)) (C := RX11) (T := TX11) (N := 28) hx hb hts in_X11 hown hK hP 0 (sm_gX11 σ47 α) rfl 5 (by decide) k_1 (fun _ h9 => h9) rfl dX11_readMethod_320 ?_
      refine lv_aload_n hx hb dX11_readMethod_323 rfl (lv_at hl 0 rfl) ?_
      refine va_get (D := D) (ci := 11) (v := .ref (α.1 18)) (C := RX11) (T := TX11) (N := 28) hx hb hts in_X11 hown hK hP 0 (sm_gX11 σ47 α) rfl 23 (by decide) k_3 (fun _ h9 => h9) rfl dX11_readMethod_324 ?_
      refine lv_iload_n hx hb dX11_readMethod_327 rfl (lv_at hl 1 rfl) ?_
      obtain ⟨h48, hF⟩ := hF
      refine va_iald (n := (σ47.2.2.1 18)) (f := (σ47.2.2.2.1 18)) hx hb hK hP 18 16 (sm_aM18 σ47 α) (sm_yM18 α) h48 dX11_readMethod_328 ?_
      refine lv_iadd hx hb dX11_readMethod_329 ?_
      refine lv_topi (fun v49 ev49 => ?_)
      replace hF := hF v49 ev49
      refine lv_istore (lv' := [(4, .int v49), (0, .ref (α.1 0)), (1, .int x1)]) hx hb dX11_readMethod_330 hl (by decide) rfl (fun ls hl => ?_)
      obtain ⟨n332, hF⟩ := hF
      exact B332 n332 σ47 x1 v49 hF H locs ls hP hS (lv_sub hl [1, 2, 0] rfl)
    · replace hF := hF.2 h41
      exact B291 σ39 hF H locs ls hP hS (lv_sub hl [] rfl)
  have B268 : ∀ (σ : sm_S) (x1 : Int32) (y1 : Int32), mp_X11_readMethod_268 K σ x1 y1 → sm_J p l e (headSpec wp_X11_readMethod { frames := 4, cells := 0, slots := 0, locals := 90 }).room s m ([.ref (α.1 0), .int p1] : List Value).toArray below meth c (MQ below (va_Qi K (sm_B sm_wM D α) A) ([.ref (α.1 0), .int p1] : List Value).toArray s 0 0 A) D A 7 (sm_wM σ α) 268 [(0, .ref (α.1 0)), (1, .int x1)] [.int y1, .ref (α.1 0)] := by
    intro σ x1 y1 hF H locs ls hP hS hl
    unfold mp_X11_readMethod_268 at hF
    refine lv_aload_n hx hb dX11_readMethod_268 rfl (lv_at hl 0 rfl) ?_
    refine sm_vi (As := []) (rest := [.int y1, .ref (α.1 0)]) hP hK hD hE hS hA ⟨hx, hb, hml, hown, hts⟩ hl.1 (c_X11_last l D H.size t0 σ α _ hF) (cwV 0 hts wg_X11_readMethod_X11_last_98 rfl rfl rfl (by decide +kernel) ⟨Nat.le_of_ble_eq_true rfl, Nat.le_of_ble_eq_true rfl⟩) (va_recv hK hP (ci := 11) (q0 := 0) rfl (sm_gX11 σ α)) rfl rfl (Nat.le_of_ble_eq_true rfl) dX11_readMethod_269 ⟨Nat.zero_le _, Nat.zero_le _⟩ (fun r51 σ50 H locs hF hP hS => ?_)
    refine lv_iconst (v := 3) hx hb dX11_readMethod_272 (by decide) ?_
    refine lv_icmp_ne (tgt := 282) hx hb dX11_readMethod_273 (by decide) (fun h52 => ?_) (fun h52 => ?_)
    · replace hF := hF.1 h52
      refine lv_sipush (v := 255) hx hb dX11_readMethod_282 (by decide) ?_
      exact B285 σ50 x1 y1 255 hF H locs ls hP hS (lv_sub hl [0, 1] rfl)
    · replace hF := hF.2 h52
      refine lv_sipush (v := 232) hx hb dX11_readMethod_276 (by decide) ?_
      refine lv_goto (tgt := 285) hx hb dX11_readMethod_279 (by decide) ?_
      exact B285 σ50 x1 y1 232 hF H locs ls hP hS (lv_sub hl [0, 1] rfl)
  have B194 : ∀ (σ : sm_S) (x1 : Int32) (x3 : Int32) (y1 : Int32) (y2 : Int32), mp_X11_readMethod_194 K σ x1 x3 y1 y2 → sm_J p l e (headSpec wp_X11_readMethod { frames := 4, cells := 0, slots := 0, locals := 90 }).room s m ([.ref (α.1 0), .int p1] : List Value).toArray below meth c (MQ below (va_Qi K (sm_B sm_wM D α) A) ([.ref (α.1 0), .int p1] : List Value).toArray s 0 0 A) D A 7 (sm_wM σ α) 194 [(0, .ref (α.1 0)), (1, .int x1), (3, .int x3)] [.int y2, .int y1, .ref (α.1 14)] := by
    intro σ x1 x3 y1 y2 hF H locs ls hP hS hl
    unfold mp_X11_readMethod_194 at hF
    obtain ⟨h53, hF⟩ := hF
    refine va_iast (n := (σ.2.2.1 14)) (f := (σ.2.2.2.1 14)) (x := y2) hx hb hK hP (hD.to (sm_wM_m _ _)) hS 14 12 (sm_aM14 σ α) (sm_yM14 α) h53 dX11_readMethod_194 (fun H locs hP _ hS => ?_)
    rw [sm_rM14] at hP
    obtain ⟨σ54, eσ54⟩ : ∃ x : sm_S, x = sm_r σ 14 (upd (σ.2.2.2.1 14) y1.toNatClampNeg y2) := ⟨_, rfl⟩
    replace hF := hF σ54 eσ54
    rw [← eσ54] at hP
    refine lv_aload_n hx hb dX11_readMethod_195 rfl (lv_at hl 0 rfl) ?_
    refine lv_iload_n hx hb dX11_readMethod_196 rfl (lv_at hl 2 rfl) ?_
    refine lv_bipush (v := 12) hx hb dX11_readMethod_197 (by decide) ?_
    refine sm_vi (As := [.int x3, .int 12]) (rest := []) hP hK hD hE hS hA ⟨hx, hb, hml, hown, hts⟩ hl.1 (c_X11_over l D H.size t0 σ54 α x3 12 _ hF) (cwV 2 hts wg_X11_readMethod_X11_over_94 rfl rfl rfl (by decide +kernel) ⟨Nat.le_of_ble_eq_true rfl, Nat.le_of_ble_eq_true rfl⟩) (va_recv hK hP (ci := 11) (q0 := 0) rfl (sm_gX11 σ54 α)) rfl rfl (Nat.le_of_ble_eq_true rfl) dX11_readMethod_199 ⟨Nat.zero_le _, Nat.zero_le _⟩ (fun r56 σ55 H locs hF hP hS => ?_)
    refine lv_if_ne (tgt := 207) hx hb dX11_readMethod_202 (by decide) (fun h57 => ?_) (fun h57 => ?_)
    · replace hF := hF.1 h57
      refine lv_aload_n hx hb dX11_readMethod_207 rfl (lv_at hl 0 rfl) ?_
      refine va_get (D := D) (ci := 11) (v := .ref (α.1 15)) (C := RX11) (T := TX11) (N := 28) hx hb hts in_X11 hown hK hP 0 (sm_gX11 σ55 α) rfl 20 (by decide) k_5 (fun _ h9 => h9) rfl dX11_readMethod_208 ?_
      refine lv_iload_n hx hb dX11_readMethod_211 rfl (lv_at hl 1 rfl) ?_
      refine lv_aload_n hx hb dX11_readMethod_212 rfl (lv_at hl 0 rfl) ?_
      refine sm_vi (As := []) (rest := [.int x1, .ref (α.1 15)]) hP hK hD hE hS hA ⟨hx, hb, hml, hown, hts⟩ hl.1 (c_X11_last l D H.size t0 σ55 α _ hF) (cwV 0 hts wg_X11_readMethod_X11_last_98 rfl rfl rfl (by decide +kernel) ⟨Nat.le_of_ble_eq_true rfl, Nat.le_of_ble_eq_true rfl⟩) (va_recv hK hP (ci := 11) (q0 := 0) rfl (sm_gX11 σ55 α)) rfl rfl (Nat.le_of_ble_eq_true rfl) dX11_readMethod_213 ⟨Nat.zero_le _, Nat.zero_le _⟩ (fun r59 σ58 H locs hF hP hS => ?_)
      obtain ⟨h60, hF⟩ := hF
      refine va_iast (n := (σ58.2.2.1 15)) (f := (σ58.2.2.2.1 15)) (x := r59) hx hb hK hP (hD.to (sm_wM_m _ _)) hS 15 13 (sm_aM15 σ58 α) (sm_yM15 α) h60 dX11_readMethod_216 (fun H locs hP _ hS => ?_)
      rw [sm_rM15] at hP
      obtain ⟨σ61, eσ61⟩ : ∃ x : sm_S, x = sm_r σ58 15 (upd (σ58.2.2.2.1 15) x1.toNatClampNeg r59) := ⟨_, rfl⟩
      replace hF := hF σ61 eσ61
      rw [← eσ61] at hP
      refine lv_aload_n hx hb dX11_readMethod_217 rfl (lv_at hl 0 rfl) ?_
      refine lv_iconst (v := 0) hx hb dX11_readMethod_218 (by decide) ?_
      refine lv_bipush (v := 12) hx hb dX11_readMethod_219 (by decide) ?_
      refine lv_aload_n hx hb dX11_readMethod_221 rfl (lv_at hl 0 rfl) ?_
      refine va_get (D := D) (ci := 11) (v := .ref (α.1 15)) (C := RX11) (T := TX11) (N := 28) hx hb hts in_X11 hown hK hP 0 (sm_gX11 σ61 α) rfl 20 (by decide) k_5 (fun _ h9 => h9) rfl dX11_readMethod_222 ?_
      refine lv_iload_n hx hb dX11_readMethod_225 rfl (lv_at hl 1 rfl) ?_
      obtain ⟨h62, hF⟩ := hF
      refine va_iald (n := (σ61.2.2.1 15)) (f := (σ61.2.2.2.1 15)) hx hb hK hP 15 13 (sm_aM15 σ61 α) (sm_yM15 α) h62 dX11_readMethod_226 ?_
      refine lv_isub hx hb dX11_readMethod_227 ?_
      refine sm_vi (As := [.int 0, .int (12 - ((σ61.2.2.2.1 15) x1.toNatClampNeg))]) (rest := []) hP hK hD hE hS hA ⟨hx, hb, hml, hown, hts⟩ hl.1 (c_X11_over l D H.size t0 σ61 α 0 (12 - ((σ61.2.2.2.1 15) x1.toNatClampNeg)) _ hF) (cwV 2 hts wg_X11_readMethod_X11_over_94 rfl rfl rfl (by decide +kernel) ⟨Nat.le_of_ble_eq_true rfl, Nat.le_of_ble_eq_true rfl⟩) (va_recv hK hP (ci := 11) (q0 := 0) rfl (sm_gX11 σ61 α)) rfl rfl (Nat.le_of_ble_eq_true rfl) dX11_readMethod_228 ⟨Nat.zero_le _, Nat.zero_le _⟩ (fun r64 σ63 H locs hF hP hS => ?_)
      refine lv_if_ne (tgt := 236) hx hb dX11_readMethod_231 (by decide) (fun h65 => ?_) (fun h65 => ?_)
      · replace hF := hF.1 h65
        refine lv_aload_n hx hb dX11_readMethod_236 rfl (lv_at hl 0 rfl) ?_
        refine va_get (D := D) (ci := 11) (v := .ref (α.1 16)) (C := RX11) (T := TX11) (N := 28) hx hb hts in_X11 hown hK hP 0 (sm_gX11 σ63 α) rfl 21 (by decide) k_6 (fun _ h9 => h9) rfl dX11_readMethod_237 ?_
        refine lv_iload_n hx hb dX11_readMethod_240 rfl (lv_at hl 1 rfl) ?_
        refine lv_aload_n hx hb dX11_readMethod_241 rfl (lv_at hl 0 rfl) ?_
        refine sm_vi (As := []) (rest := [.int x1, .ref (α.1 16)]) hP hK hD hE hS hA ⟨hx, hb, hml, hown, hts⟩ hl.1 (c_X11_last l D H.size t0 σ63 α _ hF) (cwV 0 hts wg_X11_readMethod_X11_last_98 rfl rfl rfl (by decide +kernel) ⟨Nat.le_of_ble_eq_true rfl, Nat.le_of_ble_eq_true rfl⟩) (va_recv hK hP (ci := 11) (q0 := 0) rfl (sm_gX11 σ63 α)) rfl rfl (Nat.le_of_ble_eq_true rfl) dX11_readMethod_242 ⟨Nat.zero_le _, Nat.zero_le _⟩ (fun r67 σ66 H locs hF hP hS => ?_)
        obtain ⟨h68, hF⟩ := hF
        refine va_iast (n := (σ66.2.2.1 16)) (f := (σ66.2.2.2.1 16)) (x := r67) hx hb hK hP (hD.to (sm_wM_m _ _)) hS 16 14 (sm_aM16 σ66 α) (sm_yM16 α) h68 dX11_readMethod_245 (fun H locs hP _ hS => ?_)
        rw [sm_rM16] at hP
        obtain ⟨σ69, eσ69⟩ : ∃ x : sm_S, x = sm_r σ66 16 (upd (σ66.2.2.2.1 16) x1.toNatClampNeg r67) := ⟨_, rfl⟩
        replace hF := hF σ69 eσ69
        rw [← eσ69] at hP
        refine lv_aload_n hx hb dX11_readMethod_246 rfl (lv_at hl 0 rfl) ?_
        refine lv_iconst (v := 0) hx hb dX11_readMethod_247 (by decide) ?_
        refine lv_iconst (v := 3) hx hb dX11_readMethod_248 (by decide) ?_
        refine sm_vi (As := [.int 0, .int 3]) (rest := []) hP hK hD hE hS hA ⟨hx, hb, hml, hown, hts⟩ hl.1 (c_X11_over l D H.size t0 σ69 α 0 3 _ hF) (cwV 2 hts wg_X11_readMethod_X11_over_94 rfl rfl rfl (by decide +kernel) ⟨Nat.le_of_ble_eq_true rfl, Nat.le_of_ble_eq_true rfl⟩) (va_recv hK hP (ci := 11) (q0 := 0) rfl (sm_gX11 σ69 α)) rfl rfl (Nat.le_of_ble_eq_true rfl) dX11_readMethod_249 ⟨Nat.zero_le _, Nat.zero_le _⟩ (fun r71 σ70 H locs hF hP hS => ?_)
        refine lv_if_eq (tgt := 291) hx hb dX11_readMethod_252 (by decide) (fun h72 => ?_) (fun h72 => ?_)
        · replace hF := hF.1 h72
          exact B291 σ70 hF H locs ls hP hS (lv_sub hl [] rfl)
        · replace hF := hF.2 h72
          refine lv_aload_n hx hb dX11_readMethod_255 rfl (lv_at hl 0 rfl) ?_
          refine lv_aload_n hx hb dX11_readMethod_256 rfl (lv_at hl 0 rfl) ?_
          refine sm_vi (As := []) (rest := [.ref (α.1 0)]) hP hK hD hE hS hA ⟨hx, hb, hml, hown, hts⟩ hl.1 (c_X11_last l D H.size t0 σ70 α _ hF) (cwV 0 hts wg_X11_readMethod_X11_last_98 rfl rfl rfl (by decide +kernel) ⟨Nat.le_of_ble_eq_true rfl, Nat.le_of_ble_eq_true rfl⟩) (va_recv hK hP (ci := 11) (q0 := 0) rfl (sm_gX11 σ70 α)) rfl rfl (Nat.le_of_ble_eq_true rfl) dX11_readMethod_257 ⟨Nat.zero_le _, Nat.zero_le _⟩ (fun r74 σ73 H locs hF hP hS => ?_)
          refine lv_if_ne (tgt := 267) hx hb dX11_readMethod_260 (by decide) (fun h75 => ?_) (fun h75 => ?_)
          · replace hF := hF.1 h75
            refine lv_iconst (v := 0) hx hb dX11_readMethod_267 (by decide) ?_
            exact B268 σ73 x1 0 hF H locs ls hP hS (lv_sub hl [0, 1] rfl)
          · replace hF := hF.2 h75
            refine lv_iconst (v := 1) hx hb dX11_readMethod_263 (by decide) ?_
            refine lv_goto (tgt := 268) hx hb dX11_readMethod_264 (by decide) ?_
            exact B268 σ73 x1 1 hF H locs ls hP hS (lv_sub hl [0, 1] rfl)
      · replace hF := hF.2 h65
        refine lv_iconst (v := 0) hx hb dX11_readMethod_234 (by decide) ?_
        exact W.zret (v := 0) hx hb hr sm_z0.1 (fun t ht hW => ⟨⟨0, σ63, rfl, hF, (by unfold sm_B; rw [ht]; exact hP)⟩, hS.F ht⟩) hS.2.2 dX11_readMethod_235
    · replace hF := hF.2 h57
      refine lv_iconst (v := 0) hx hb dX11_readMethod_205 (by decide) ?_
      exact W.zret (v := 0) hx hb hr sm_z0.1 (fun t ht hW => ⟨⟨0, σ55, rfl, hF, (by unfold sm_B; rw [ht]; exact hP)⟩, hS.F ht⟩) hS.2.2 dX11_readMethod_206
  have B114 : ∀ (n : Nat) (σ : sm_S) (x1 : Int32) (x2 : Int32) (x3 : Int32) (x4 : Int32), mp_X11_readMethod_114 K n σ x1 x2 x3 x4 → sm_J p l e (headSpec wp_X11_readMethod { frames := 4, cells := 0, slots := 0, locals := 90 }).room s m ([.ref (α.1 0), .int p1] : List Value).toArray below meth c (MQ below (va_Qi K (sm_B sm_wM D α) A) ([.ref (α.1 0), .int p1] : List Value).toArray s 0 0 A) D A 7 (sm_wM σ α) 114 [(0, .ref (α.1 0)), (1, .int x1), (2, .int x2), (3, .int x3), (4, .int x4)] [] := by
    intro n114
    induction n114 with
    | zero =>
      intro σ x1 x2 x3 x4 hF
      exact hF.elim
    | succ n114 ih114 =>
      intro σ x1 x2 x3 x4 hF H locs ls hP hS hl
      unfold mp_X11_readMethod_114 at hF
      refine lv_iload hx hb dX11_readMethod_114 (lv_at hl 4 rfl) ?_
      refine lv_iload_n hx hb dX11_readMethod_116 rfl (lv_at hl 2 rfl) ?_
      refine lv_icmp_ge (tgt := 154) hx hb dX11_readMethod_117 (by decide) (fun h76 => ?_) (fun h76 => ?_)
      · replace hF := hF.1 h76
        refine lv_aload_n hx hb dX11_readMethod_154 rfl (lv_at hl 0 rfl) ?_
        refine va_get (D := D) (ci := 11) (v := .ref (α.1 12)) (C := RX11) (T := TX11) (N := 28) hx hb hts in_X11 hown hK hP 0 (sm_gX11 σ α) rfl 17 (by decide) k_7 (fun _ h9 => h9) rfl dX11_readMethod_155 ?_
        refine lv_iload_n hx hb dX11_readMethod_158 rfl (lv_at hl 1 rfl) ?_
        refine lv_iload_n hx hb dX11_readMethod_159 rfl (lv_at hl 3 rfl) ?_
        obtain ⟨h77, hF⟩ := hF
        refine va_iast (n := (σ.2.2.1 12)) (f := (σ.2.2.2.1 12)) (x := x3) hx hb hK hP (hD.to (sm_wM_m _ _)) hS 12 10 (sm_aM12 σ α) (sm_yM12 α) h77 dX11_readMethod_160 (fun H locs hP _ hS => ?_)
        rw [sm_rM12] at hP
        obtain ⟨σ78, eσ78⟩ : ∃ x : sm_S, x = sm_r σ 12 (upd (σ.2.2.2.1 12) x1.toNatClampNeg x3) := ⟨_, rfl⟩
        replace hF := hF σ78 eσ78
        rw [← eσ78] at hP
        refine lv_aload_n hx hb dX11_readMethod_161 rfl (lv_at hl 0 rfl) ?_
        refine lv_iconst (v := 1) hx hb dX11_readMethod_162 (by decide) ?_
        refine sm_vi (As := [.int 1]) (rest := []) hP hK hD hE hS hA ⟨hx, hb, hml, hown, hts⟩ hl.1 (c_X11_overType l D H.size t0 σ78 α 1 _ hF) (cwV 1 hts wg_X11_readMethod_X11_overType_101 rfl rfl rfl (by decide +kernel) ⟨Nat.le_of_ble_eq_true rfl, Nat.le_of_ble_eq_true rfl⟩) (va_recv hK hP (ci := 11) (q0 := 0) rfl (sm_gX11 σ78 α)) rfl rfl (Nat.le_of_ble_eq_true rfl) dX11_readMethod_163 ⟨Nat.zero_le _, Nat.zero_le _⟩ (fun r80 σ79 H locs hF hP hS => ?_)
        refine lv_if_ne (tgt := 171) hx hb dX11_readMethod_166 (by decide) (fun h81 => ?_) (fun h81 => ?_)
        · replace hF := hF.1 h81
          refine lv_aload_n hx hb dX11_readMethod_171 rfl (lv_at hl 0 rfl) ?_
          refine va_get (D := D) (ci := 11) (v := .ref (α.1 14)) (C := RX11) (T := TX11) (N := 28) hx hb hts in_X11 hown hK hP 0 (sm_gX11 σ79 α) rfl 19 (by decide) k_8 (fun _ h9 => h9) rfl dX11_readMethod_172 ?_
          refine lv_iload_n hx hb dX11_readMethod_175 rfl (lv_at hl 1 rfl) ?_
          refine lv_aload_n hx hb dX11_readMethod_176 rfl (lv_at hl 0 rfl) ?_
          refine sm_vi (As := []) (rest := [.int x1, .ref (α.1 14)]) hP hK hD hE hS hA ⟨hx, hb, hml, hown, hts⟩ hl.1 (c_X11_last l D H.size t0 σ79 α _ hF) (cwV 0 hts wg_X11_readMethod_X11_last_98 rfl rfl rfl (by decide +kernel) ⟨Nat.le_of_ble_eq_true rfl, Nat.le_of_ble_eq_true rfl⟩) (va_recv hK hP (ci := 11) (q0 := 0) rfl (sm_gX11 σ79 α)) rfl rfl (Nat.le_of_ble_eq_true rfl) dX11_readMethod_177 ⟨Nat.zero_le _, Nat.zero_le _⟩ (fun r83 σ82 H locs hF hP hS => ?_)
          refine lv_sipush (v := 255) hx hb dX11_readMethod_180 (by decide) ?_
          refine lv_icmp_ne (tgt := 190) hx hb dX11_readMethod_183 (by decide) (fun h84 => ?_) (fun h84 => ?_)
          · replace hF := hF.1 h84
            refine lv_aload_n hx hb dX11_readMethod_190 rfl (lv_at hl 0 rfl) ?_
            refine sm_vi (As := []) (rest := [.int x1, .ref (α.1 14)]) hP hK hD hE hS hA ⟨hx, hb, hml, hown, hts⟩ hl.1 (c_X11_last l D H.size t0 σ82 α _ hF) (cwV 0 hts wg_X11_readMethod_X11_last_98 rfl rfl rfl (by decide +kernel) ⟨Nat.le_of_ble_eq_true rfl, Nat.le_of_ble_eq_true rfl⟩) (va_recv hK hP (ci := 11) (q0 := 0) rfl (sm_gX11 σ82 α)) rfl rfl (Nat.le_of_ble_eq_true rfl) dX11_readMethod_191 ⟨Nat.zero_le _, Nat.zero_le _⟩ (fun r86 σ85 H locs hF hP hS => ?_)
            exact B194 σ85 x1 x3 x1 r86 hF H locs ls hP hS (lv_sub hl [0, 1, 3] rfl)
          · replace hF := hF.2 h84
            refine lv_iconst (v := -1) hx hb dX11_readMethod_186 (by decide) ?_
            refine lv_goto (tgt := 194) hx hb dX11_readMethod_187 (by decide) ?_
            exact B194 σ82 x1 x3 x1 (-1) hF H locs ls hP hS (lv_sub hl [0, 1, 3] rfl)
        · replace hF := hF.2 h81
          refine lv_iconst (v := 0) hx hb dX11_readMethod_169 (by decide) ?_
          exact W.zret (v := 0) hx hb hr sm_z0.1 (fun t ht hW => ⟨⟨0, σ79, rfl, hF, (by unfold sm_B; rw [ht]; exact hP)⟩, hS.F ht⟩) hS.2.2 dX11_readMethod_170
      · replace hF := hF.2 h76
        refine lv_aload_n hx hb dX11_readMethod_120 rfl (lv_at hl 0 rfl) ?_
        refine lv_iconst (v := 0) hx hb dX11_readMethod_121 (by decide) ?_
        refine sm_vi (As := [.int 0]) (rest := []) hP hK hD hE hS hA ⟨hx, hb, hml, hown, hts⟩ hl.1 (c_X11_overType l D H.size t0 σ α 0 _ hF) (cwV 1 hts wg_X11_readMethod_X11_overType_101 rfl rfl rfl (by decide +kernel) ⟨Nat.le_of_ble_eq_true rfl, Nat.le_of_ble_eq_true rfl⟩) (va_recv hK hP (ci := 11) (q0 := 0) rfl (sm_gX11 σ α)) rfl rfl (Nat.le_of_ble_eq_true rfl) dX11_readMethod_122 ⟨Nat.zero_le _, Nat.zero_le _⟩ (fun r88 σ87 H locs hF hP hS => ?_)
        refine lv_if_ne (tgt := 130) hx hb dX11_readMethod_125 (by decide) (fun h89 => ?_) (fun h89 => ?_)
        · replace hF := hF.1 h89
          refine lv_aload_n hx hb dX11_readMethod_130 rfl (lv_at hl 0 rfl) ?_
          refine va_get (D := D) (ci := 11) (v := .ref (α.1 13)) (C := RX11) (T := TX11) (N := 28) hx hb hts in_X11 hown hK hP 0 (sm_gX11 σ87 α) rfl 18 (by decide) k_9 (fun _ h9 => h9) rfl dX11_readMethod_131 ?_
          refine lv_bipush (v := 8) hx hb dX11_readMethod_134 (by decide) ?_
          refine lv_iload_n hx hb dX11_readMethod_136 rfl (lv_at hl 1 rfl) ?_
          refine lv_imul hx hb dX11_readMethod_137 ?_
          refine lv_iload_n hx hb dX11_readMethod_138 rfl (lv_at hl 3 rfl) ?_
          refine lv_iadd hx hb dX11_readMethod_139 ?_
          refine lv_aload_n hx hb dX11_readMethod_140 rfl (lv_at hl 0 rfl) ?_
          refine sm_vi (As := []) (rest := [.int ((8 * x1) + x3), .ref (α.1 13)]) hP hK hD hE hS hA ⟨hx, hb, hml, hown, hts⟩ hl.1 (c_X11_last l D H.size t0 σ87 α _ hF) (cwV 0 hts wg_X11_readMethod_X11_last_98 rfl rfl rfl (by decide +kernel) ⟨Nat.le_of_ble_eq_true rfl, Nat.le_of_ble_eq_true rfl⟩) (va_recv hK hP (ci := 11) (q0 := 0) rfl (sm_gX11 σ87 α)) rfl rfl (Nat.le_of_ble_eq_true rfl) dX11_readMethod_141 ⟨Nat.zero_le _, Nat.zero_le _⟩ (fun r91 σ90 H locs hF hP hS => ?_)
          obtain ⟨h92, hF⟩ := hF
          refine va_iast (n := (σ90.2.2.1 13)) (f := (σ90.2.2.2.1 13)) (x := r91) hx hb hK hP (hD.to (sm_wM_m _ _)) hS 13 11 (sm_aM13 σ90 α) (sm_yM13 α) h92 dX11_readMethod_144 (fun H locs hP _ hS => ?_)
          rw [sm_rM13] at hP
          obtain ⟨σ93, eσ93⟩ : ∃ x : sm_S, x = sm_r σ90 13 (upd (σ90.2.2.2.1 13) ((8 * x1) + x3).toNatClampNeg r91) := ⟨_, rfl⟩
          replace hF := hF σ93 eσ93
          rw [← eσ93] at hP
          obtain ⟨v94, ev94⟩ : ∃ y : Int32, y = x3 + 1 := ⟨_, rfl⟩
          replace hF := hF v94 ev94
          refine lv_iinc (v := v94) (lv' := [(3, .int v94), (0, .ref (α.1 0)), (1, .int x1), (2, .int x2), (4, .int x4)]) hx hb dX11_readMethod_145 hl (k := 3) rfl (by rw [ev94]; rfl) (by decide) rfl (fun ls hl => ?_)
          obtain ⟨v95, ev95⟩ : ∃ y : Int32, y = x4 + 1 := ⟨_, rfl⟩
          replace hF := hF v95 ev95
          refine lv_iinc (v := v95) (lv' := [(4, .int v95), (3, .int v94), (0, .ref (α.1 0)), (1, .int x1), (2, .int x2)]) hx hb dX11_readMethod_148 hl (k := 4) rfl (by rw [ev95]; rfl) (by decide) rfl (fun ls hl => ?_)
          refine lv_goto (tgt := 114) hx hb dX11_readMethod_151 (by decide) ?_
          exact ih114 σ93 x1 x2 v94 v95 hF H locs ls hP hS (lv_sub hl [2, 3, 4, 1, 0] rfl)
        · replace hF := hF.2 h89
          refine lv_iconst (v := 0) hx hb dX11_readMethod_128 (by decide) ?_
          exact W.zret (v := 0) hx hb hr sm_z0.1 (fun t ht hW => ⟨⟨0, σ87, rfl, hF, (by unfold sm_B; rw [ht]; exact hP)⟩, hS.F ht⟩) hS.2.2 dX11_readMethod_129
  have B111 : ∀ (σ : sm_S) (x1 : Int32) (x2 : Int32) (x3 : Int32), mp_X11_readMethod_111 K σ x1 x2 x3 → sm_J p l e (headSpec wp_X11_readMethod { frames := 4, cells := 0, slots := 0, locals := 90 }).room s m ([.ref (α.1 0), .int p1] : List Value).toArray below meth c (MQ below (va_Qi K (sm_B sm_wM D α) A) ([.ref (α.1 0), .int p1] : List Value).toArray s 0 0 A) D A 7 (sm_wM σ α) 111 [(0, .ref (α.1 0)), (1, .int x1), (2, .int x2), (3, .int x3)] [] := by
    intro σ x1 x2 x3 hF H locs ls hP hS hl
    unfold mp_X11_readMethod_111 at hF
    refine lv_iconst (v := 0) hx hb dX11_readMethod_111 (by decide) ?_
    refine lv_istore (lv' := [(4, .int 0), (0, .ref (α.1 0)), (1, .int x1), (2, .int x2), (3, .int x3)]) hx hb dX11_readMethod_112 hl (by decide) rfl (fun ls hl => ?_)
    obtain ⟨n114, hF⟩ := hF
    exact B114 n114 σ x1 x2 x3 0 hF H locs ls hP hS (lv_sub hl [1, 2, 3, 4, 0] rfl)
  have B53 : ∀ (σ : sm_S) (x1 : Int32) (y1 : Int32) (y2 : Int32), mp_X11_readMethod_53 K σ x1 y1 y2 → sm_J p l e (headSpec wp_X11_readMethod { frames := 4, cells := 0, slots := 0, locals := 90 }).room s m ([.ref (α.1 0), .int p1] : List Value).toArray below meth c (MQ below (va_Qi K (sm_B sm_wM D α) A) ([.ref (α.1 0), .int p1] : List Value).toArray s 0 0 A) D A 7 (sm_wM σ α) 53 [(0, .ref (α.1 0)), (1, .int x1)] [.int y2, .int y1, .ref (α.1 11)] := by
    intro σ x1 y1 y2 hF H locs ls hP hS hl
    unfold mp_X11_readMethod_53 at hF
    obtain ⟨h96, hF⟩ := hF
    refine va_iast (n := (σ.2.2.1 11)) (f := (σ.2.2.2.1 11)) (x := y2) hx hb hK hP (hD.to (sm_wM_m _ _)) hS 11 9 (sm_aM11 σ α) (sm_yM11 α) h96 dX11_readMethod_53 (fun H locs hP _ hS => ?_)
    rw [sm_rM11] at hP
    obtain ⟨σ97, eσ97⟩ : ∃ x : sm_S, x = sm_r σ 11 (upd (σ.2.2.2.1 11) y1.toNatClampNeg y2) := ⟨_, rfl⟩
    replace hF := hF σ97 eσ97
    rw [← eσ97] at hP
    refine lv_aload_n hx hb dX11_readMethod_54 rfl (lv_at hl 0 rfl) ?_
    refine lv_dup hx hb dX11_readMethod_55 rfl ?_
    refine va_get (D := D) (ci := 11) (v := .int (σ97.1 2)) (C := RX11) (T := TX11) (N := 28) hx hb hts in_X11 hown hK hP 0 (sm_gX11 σ97 α) rfl 5 (by decide) k_1 (fun _ h9 => h9) rfl dX11_readMethod_56 ?_
    refine lv_iconst (v := 1) hx hb dX11_readMethod_59 (by decide) ?_
    refine lv_iadd hx hb dX11_readMethod_60 ?_
    refine va_put (D := D) (ci := 11) (v := .int ((σ97.1 2) + 1)) (ty := .int) (C := RX11) (T := TX11) (N := 28) hx hb hts in_X11 tyX11 tyX11_ok nmX11 hown hK hP (hD.to (sm_wM_m _ _)) hS 0 (sm_gX11 σ97 α) rfl 5 (by decide) k_1 (fun _ h9 => h9) rfl (by decide +kernel) rfl rfl (Nat.le_of_ble_eq_true rfl) dX11_readMethod_61 (fun H locs hP _ hS => ?_)
    rw [sm_iM2] at hP
    obtain ⟨σ98, eσ98⟩ : ∃ x : sm_S, x = sm_i σ97 2 ((σ97.1 2) + 1) := ⟨_, rfl⟩
    replace hF := hF σ98 eσ98
    rw [← eσ98] at hP
    refine lv_aload_n hx hb dX11_readMethod_64 rfl (lv_at hl 0 rfl) ?_
    refine lv_iconst (v := 0) hx hb dX11_readMethod_65 (by decide) ?_
    refine lv_bipush (v := 7) hx hb dX11_readMethod_66 (by decide) ?_
    refine sm_vi (As := [.int 0, .int 7]) (rest := []) hP hK hD hE hS hA ⟨hx, hb, hml, hown, hts⟩ hl.1 (c_X11_over l D H.size t0 σ98 α 0 7 _ hF) (cwV 2 hts wg_X11_readMethod_X11_over_94 rfl rfl rfl (by decide +kernel) ⟨Nat.le_of_ble_eq_true rfl, Nat.le_of_ble_eq_true rfl⟩) (va_recv hK hP (ci := 11) (q0 := 0) rfl (sm_gX11 σ98 α)) rfl rfl (Nat.le_of_ble_eq_true rfl) dX11_readMethod_68 ⟨Nat.zero_le _, Nat.zero_le _⟩ (fun r100 σ99 H locs hF hP hS => ?_)
    refine lv_if_ne (tgt := 76) hx hb dX11_readMethod_71 (by decide) (fun h101 => ?_) (fun h101 => ?_)
    · replace hF := hF.1 h101
      refine lv_aload_n hx hb dX11_readMethod_76 rfl (lv_at hl 0 rfl) ?_
      refine sm_vi (As := []) (rest := []) hP hK hD hE hS hA ⟨hx, hb, hml, hown, hts⟩ hl.1 (c_X11_last l D H.size t0 σ99 α _ hF) (cwV 0 hts wg_X11_readMethod_X11_last_98 rfl rfl rfl (by decide +kernel) ⟨Nat.le_of_ble_eq_true rfl, Nat.le_of_ble_eq_true rfl⟩) (va_recv hK hP (ci := 11) (q0 := 0) rfl (sm_gX11 σ99 α)) rfl rfl (Nat.le_of_ble_eq_true rfl) dX11_readMethod_77 ⟨Nat.zero_le _, Nat.zero_le _⟩ (fun r103 σ102 H locs hF hP hS => ?_)
      refine lv_istore_n (lv' := [(2, .int r103), (0, .ref (α.1 0)), (1, .int x1)]) hx hb dX11_readMethod_80 rfl hl (by decide) rfl (fun ls hl => ?_)
      refine lv_iconst (v := 0) hx hb dX11_readMethod_81 (by decide) ?_
      refine lv_istore_n (lv' := [(3, .int 0), (2, .int r103), (0, .ref (α.1 0)), (1, .int x1)]) hx hb dX11_readMethod_82 rfl hl (by decide) rfl (fun ls hl => ?_)
      refine lv_aload_n hx hb dX11_readMethod_83 rfl (lv_at hl 2 rfl) ?_
      refine va_get (D := D) (ci := 11) (v := .ref (α.1 11)) (C := RX11) (T := TX11) (N := 28) hx hb hts in_X11 hown hK hP 0 (sm_gX11 σ102 α) rfl 16 (by decide) k_10 (fun _ h9 => h9) rfl dX11_readMethod_84 ?_
      refine lv_iload_n hx hb dX11_readMethod_87 rfl (lv_at hl 3 rfl) ?_
      obtain ⟨h104, hF⟩ := hF
      refine va_iald (n := (σ102.2.2.1 11)) (f := (σ102.2.2.2.1 11)) hx hb hK hP 11 9 (sm_aM11 σ102 α) (sm_yM11 α) h104 dX11_readMethod_88 ?_
      refine lv_if_lt (tgt := 111) hx hb dX11_readMethod_89 (by decide) (fun h105 => ?_) (fun h105 => ?_)
      · replace hF := hF.1 h105
        exact B111 σ102 x1 r103 0 hF H locs ls hP hS (lv_sub hl [2, 3, 1, 0] rfl)
      · replace hF := hF.2 h105
        refine lv_aload_n hx hb dX11_readMethod_92 rfl (lv_at hl 2 rfl) ?_
        refine va_get (D := D) (ci := 11) (v := .ref (α.1 13)) (C := RX11) (T := TX11) (N := 28) hx hb hts in_X11 hown hK hP 0 (sm_gX11 σ102 α) rfl 18 (by decide) k_9 (fun _ h9 => h9) rfl dX11_readMethod_93 ?_
        refine lv_bipush (v := 8) hx hb dX11_readMethod_96 (by decide) ?_
        refine lv_iload_n hx hb dX11_readMethod_98 rfl (lv_at hl 3 rfl) ?_
        refine lv_imul hx hb dX11_readMethod_99 ?_
        refine lv_iconst (v := 1) hx hb dX11_readMethod_100 (by decide) ?_
        refine lv_aload_n hx hb dX11_readMethod_101 rfl (lv_at hl 2 rfl) ?_
        refine va_get (D := D) (ci := 11) (v := .ref (α.1 11)) (C := RX11) (T := TX11) (N := 28) hx hb hts in_X11 hown hK hP 0 (sm_gX11 σ102 α) rfl 16 (by decide) k_10 (fun _ h9 => h9) rfl dX11_readMethod_102 ?_
        refine lv_iload_n hx hb dX11_readMethod_105 rfl (lv_at hl 3 rfl) ?_
        obtain ⟨h106, hF⟩ := hF
        refine va_iald (n := (σ102.2.2.1 11)) (f := (σ102.2.2.2.1 11)) hx hb hK hP 11 9 (sm_aM11 σ102 α) (sm_yM11 α) h106 dX11_readMethod_106 ?_
        refine lv_iadd hx hb dX11_readMethod_107 ?_
        obtain ⟨h107, hF⟩ := hF
        refine va_iast (n := (σ102.2.2.1 13)) (f := (σ102.2.2.2.1 13)) (x := (1 + ((σ102.2.2.2.1 11) x1.toNatClampNeg))) hx hb hK hP (hD.to (sm_wM_m _ _)) hS 13 11 (sm_aM13 σ102 α) (sm_yM13 α) h107 dX11_readMethod_108 (fun H locs hP _ hS => ?_)
        rw [sm_rM13] at hP
        obtain ⟨σ108, eσ108⟩ : ∃ x : sm_S, x = sm_r σ102 13 (upd (σ102.2.2.2.1 13) (8 * x1).toNatClampNeg (1 + ((σ102.2.2.2.1 11) x1.toNatClampNeg))) := ⟨_, rfl⟩
        replace hF := hF σ108 eσ108
        rw [← eσ108] at hP
        refine lv_iconst (v := 1) hx hb dX11_readMethod_109 (by decide) ?_
        refine lv_istore_n (lv' := [(3, .int 1), (2, .int r103), (0, .ref (α.1 0)), (1, .int x1)]) hx hb dX11_readMethod_110 rfl hl (by decide) rfl (fun ls hl => ?_)
        exact B111 σ108 x1 r103 1 hF H locs ls hP hS (lv_sub hl [2, 3, 1, 0] rfl)
    · replace hF := hF.2 h101
      refine lv_iconst (v := 0) hx hb dX11_readMethod_74 (by decide) ?_
      exact W.zret (v := 0) hx hb hr sm_z0.1 (fun t ht hW => ⟨⟨0, σ99, rfl, hF, (by unfold sm_B; rw [ht]; exact hP)⟩, hS.F ht⟩) hS.2.2 dX11_readMethod_75
  have B30 : ∀ (σ : sm_S) (x1 : Int32), mp_X11_readMethod_30 K σ x1 → sm_J p l e (headSpec wp_X11_readMethod { frames := 4, cells := 0, slots := 0, locals := 90 }).room s m ([.ref (α.1 0), .int p1] : List Value).toArray below meth c (MQ below (va_Qi K (sm_B sm_wM D α) A) ([.ref (α.1 0), .int p1] : List Value).toArray s 0 0 A) D A 7 (sm_wM σ α) 30 [(0, .ref (α.1 0)), (1, .int x1)] [] := by
    intro σ x1 hF H locs ls hP hS hl
    unfold mp_X11_readMethod_30 at hF
    refine lv_aload_n hx hb dX11_readMethod_30 rfl (lv_at hl 0 rfl) ?_
    refine va_get (D := D) (ci := 11) (v := .ref (α.1 11)) (C := RX11) (T := TX11) (N := 28) hx hb hts in_X11 hown hK hP 0 (sm_gX11 σ α) rfl 16 (by decide) k_10 (fun _ h9 => h9) rfl dX11_readMethod_31 ?_
    refine lv_iload_n hx hb dX11_readMethod_34 rfl (lv_at hl 1 rfl) ?_
    refine lv_aload_n hx hb dX11_readMethod_35 rfl (lv_at hl 0 rfl) ?_
    refine sm_vi (As := []) (rest := [.int x1, .ref (α.1 11)]) hP hK hD hE hS hA ⟨hx, hb, hml, hown, hts⟩ hl.1 (c_X11_here l D H.size t0 σ α _ hF) (cwV 0 hts wg_X11_readMethod_X11_here_83 rfl rfl rfl (by decide +kernel) ⟨Nat.le_of_ble_eq_true rfl, Nat.le_of_ble_eq_true rfl⟩) (va_recv hK hP (ci := 11) (q0 := 0) rfl (sm_gX11 σ α)) rfl rfl (Nat.le_of_ble_eq_true rfl) dX11_readMethod_36 ⟨Nat.zero_le _, Nat.zero_le _⟩ (fun r110 σ109 H locs hF hP hS => ?_)
    refine lv_sipush (v := 255) hx hb dX11_readMethod_39 (by decide) ?_
    refine lv_icmp_ne (tgt := 49) hx hb dX11_readMethod_42 (by decide) (fun h111 => ?_) (fun h111 => ?_)
    · replace hF := hF.1 h111
      refine lv_aload_n hx hb dX11_readMethod_49 rfl (lv_at hl 0 rfl) ?_
      refine sm_vi (As := []) (rest := [.int x1, .ref (α.1 11)]) hP hK hD hE hS hA ⟨hx, hb, hml, hown, hts⟩ hl.1 (c_X11_here l D H.size t0 σ109 α _ hF) (cwV 0 hts wg_X11_readMethod_X11_here_83 rfl rfl rfl (by decide +kernel) ⟨Nat.le_of_ble_eq_true rfl, Nat.le_of_ble_eq_true rfl⟩) (va_recv hK hP (ci := 11) (q0 := 0) rfl (sm_gX11 σ109 α)) rfl rfl (Nat.le_of_ble_eq_true rfl) dX11_readMethod_50 ⟨Nat.zero_le _, Nat.zero_le _⟩ (fun r113 σ112 H locs hF hP hS => ?_)
      exact B53 σ112 x1 x1 r113 hF H locs ls hP hS (lv_sub hl [0, 1] rfl)
    · replace hF := hF.2 h111
      refine lv_iconst (v := -1) hx hb dX11_readMethod_45 (by decide) ?_
      refine lv_goto (tgt := 53) hx hb dX11_readMethod_46 (by decide) ?_
      exact B53 σ109 x1 x1 (-1) hF H locs ls hP hS (lv_sub hl [0, 1] rfl)
  unfold mp_X11_readMethod at hF
  revert hP hS
  generalize hLo : ([] : List Loc) = locs
  suffices h9 : ∀ (H : Heap) (locs : List Loc), va_P D vwCl (sm_wM σ α) H → va_S A s.heap H locs → W p l e (headSpec wp_X11_readMethod { frames := 4, cells := 0, slots := 0, locals := 90 }).room s m ([.ref (α.1 0), .int p1] : List Value).toArray below meth c H locs 0 0 (MQ below (va_Qi K (sm_B sm_wM D α) A) ([.ref (α.1 0), .int p1] : List Value).toArray s 0 0 A) (F0 m 0 ls []) from fun hP hS => h9 s.heap locs hP hS
  intro H locs hP hS
  refine lv_aload_n hx hb dX11_readMethod_0 rfl (lv_at hl 0 rfl) ?_
  refine sm_vi (As := []) (rest := []) hP hK hD hE hS hA ⟨hx, hb, hml, hown, hts⟩ hl.1 (c_X11_here l D H.size t0 σ α _ hF) (cwV 0 hts wg_X11_readMethod_X11_here_83 rfl rfl rfl (by decide +kernel) ⟨Nat.le_of_ble_eq_true rfl, Nat.le_of_ble_eq_true rfl⟩) (va_recv hK hP (ci := 11) (q0 := 0) rfl (sm_gX11 σ α)) rfl rfl (Nat.le_of_ble_eq_true rfl) dX11_readMethod_1 ⟨Nat.zero_le _, Nat.zero_le _⟩ (fun r115 σ114 H locs hF hP hS => ?_)
  refine lv_sipush (v := 255) hx hb dX11_readMethod_4 (by decide) ?_
  refine lv_icmp_eq (tgt := 30) hx hb dX11_readMethod_7 (by decide) (fun h116 => ?_) (fun h116 => ?_)
  · replace hF := hF.1 h116
    exact B30 σ114 p1 hF H locs ls hP hS (lv_sub hl [0, 1] rfl)
  · replace hF := hF.2 h116
    refine lv_aload_n hx hb dX11_readMethod_10 rfl (lv_at hl 0 rfl) ?_
    refine sm_vi (As := []) (rest := []) hP hK hD hE hS hA ⟨hx, hb, hml, hown, hts⟩ hl.1 (c_X11_here l D H.size t0 σ114 α _ hF) (cwV 0 hts wg_X11_readMethod_X11_here_83 rfl rfl rfl (by decide +kernel) ⟨Nat.le_of_ble_eq_true rfl, Nat.le_of_ble_eq_true rfl⟩) (va_recv hK hP (ci := 11) (q0 := 0) rfl (sm_gX11 σ114 α)) rfl rfl (Nat.le_of_ble_eq_true rfl) dX11_readMethod_11 ⟨Nat.zero_le _, Nat.zero_le _⟩ (fun r118 σ117 H locs hF hP hS => ?_)
    refine lv_aload_n hx hb dX11_readMethod_14 rfl (lv_at hl 0 rfl) ?_
    refine va_get (D := D) (ci := 11) (v := .int (σ117.1 5)) (C := RX11) (T := TX11) (N := 28) hx hb hts in_X11 hown hK hP 0 (sm_gX11 σ117 α) rfl 8 (by decide) k_11 (fun _ h9 => h9) rfl dX11_readMethod_15 ?_
    refine lv_icmp_lt (tgt := 30) hx hb dX11_readMethod_18 (by decide) (fun h119 => ?_) (fun h119 => ?_)
    · replace hF := hF.1 h119
      exact B30 σ117 p1 hF H locs ls hP hS (lv_sub hl [0, 1] rfl)
    · replace hF := hF.2 h119
      refine lv_aload_n hx hb dX11_readMethod_21 rfl (lv_at hl 0 rfl) ?_
      refine lv_aload_n hx hb dX11_readMethod_22 rfl (lv_at hl 0 rfl) ?_
      refine va_get (D := D) (ci := 11) (v := .int (σ117.1 2)) (C := RX11) (T := TX11) (N := 28) hx hb hts in_X11 hown hK hP 0 (sm_gX11 σ117 α) rfl 5 (by decide) k_1 (fun _ h9 => h9) rfl dX11_readMethod_23 ?_
      refine sm_vi (As := [.int (σ117.1 2)]) (rest := []) hP hK hD hE hS hA ⟨hx, hb, hml, hown, hts⟩ hl.1 (c_X11_bad l D H.size t0 σ117 α (σ117.1 2) _ hF) (cwV 1 hts wg_X11_readMethod_X11_bad_87 rfl rfl rfl (by decide +kernel) ⟨Nat.le_of_ble_eq_true rfl, Nat.le_of_ble_eq_true rfl⟩) (va_recv hK hP (ci := 11) (q0 := 0) rfl (sm_gX11 σ117 α)) rfl rfl (Nat.le_of_ble_eq_true rfl) dX11_readMethod_26 ⟨Nat.zero_le _, Nat.zero_le _⟩ (fun r121 σ120 H locs hF hP hS => ?_)
      obtain ⟨h122, hF⟩ := hF
      exact W.zret (v := r121) hx hb hr h122.1 (fun t ht hW => ⟨⟨r121, σ120, rfl, hF, (by unfold sm_B; rw [ht]; exact hP)⟩, hS.F ht⟩) hS.2.2 dX11_readMethod_29
theorem dX11_readAll_0 : decode cX11_readAll 0 = .ok (.aload_n 0, 1) := by decide +kernel
theorem dX11_readAll_1 : decode cX11_readAll 1 = .ok (.iconst 1, 1) := by decide +kernel
theorem dX11_readAll_2 : decode cX11_readAll 2 = .ok (.bipush 32, 2) := by decide +kernel
theorem dX11_readAll_4 : decode cX11_readAll 4 = .ok (.invokevirtual 94, 3) := by decide +kernel
theorem dX11_readAll_7 : decode cX11_readAll 7 = .ok (.ifCond .ne 5, 3) := by decide +kernel
theorem dX11_readAll_10 : decode cX11_readAll 10 = .ok (.iconst 0, 1) := by decide +kernel
theorem dX11_readAll_11 : decode cX11_readAll 11 = .ok (.ireturn, 1) := by decide +kernel
theorem dX11_readAll_12 : decode cX11_readAll 12 = .ok (.aload_n 0, 1) := by decide +kernel
theorem dX11_readAll_13 : decode cX11_readAll 13 = .ok (.aload_n 0, 1) := by decide +kernel
theorem dX11_readAll_14 : decode cX11_readAll 14 = .ok (.invokevirtual 98, 3) := by decide +kernel
theorem dX11_readAll_17 : decode cX11_readAll 17 = .ok (.putfield 91, 3) := by decide +kernel
theorem dX11_readAll_20 : decode cX11_readAll 20 = .ok (.iconst 0, 1) := by decide +kernel
theorem dX11_readAll_21 : decode cX11_readAll 21 = .ok (.istore_n 1, 1) := by decide +kernel
theorem dX11_readAll_22 : decode cX11_readAll 22 = .ok (.iload_n 1, 1) := by decide +kernel
theorem dX11_readAll_23 : decode cX11_readAll 23 = .ok (.aload_n 0, 1) := by decide +kernel
theorem dX11_readAll_24 : decode cX11_readAll 24 = .ok (.getfield 91, 3) := by decide +kernel
theorem dX11_readAll_27 : decode cX11_readAll 27 = .ok (.if_icmp .ge 19, 3) := by decide +kernel
theorem dX11_readAll_30 : decode cX11_readAll 30 = .ok (.aload_n 0, 1) := by decide +kernel
theorem dX11_readAll_31 : decode cX11_readAll 31 = .ok (.iload_n 1, 1) := by decide +kernel
theorem dX11_readAll_32 : decode cX11_readAll 32 = .ok (.invokevirtual 122, 3) := by decide +kernel
theorem dX11_readAll_35 : decode cX11_readAll 35 = .ok (.ifCond .ne 5, 3) := by decide +kernel
theorem dX11_readAll_38 : decode cX11_readAll 38 = .ok (.iconst 0, 1) := by decide +kernel
theorem dX11_readAll_39 : decode cX11_readAll 39 = .ok (.ireturn, 1) := by decide +kernel
theorem dX11_readAll_40 : decode cX11_readAll 40 = .ok (.iinc 1 1, 3) := by decide +kernel
theorem dX11_readAll_43 : decode cX11_readAll 43 = .ok (.goto (-21), 3) := by decide +kernel
theorem dX11_readAll_46 : decode cX11_readAll 46 = .ok (.iconst 0, 1) := by decide +kernel
theorem dX11_readAll_47 : decode cX11_readAll 47 = .ok (.istore_n 1, 1) := by decide +kernel
theorem dX11_readAll_48 : decode cX11_readAll 48 = .ok (.iload_n 1, 1) := by decide +kernel
theorem dX11_readAll_49 : decode cX11_readAll 49 = .ok (.iconst 5, 1) := by decide +kernel
theorem dX11_readAll_50 : decode cX11_readAll 50 = .ok (.if_icmp .ge 28, 3) := by decide +kernel
theorem dX11_readAll_53 : decode cX11_readAll 53 = .ok (.aload_n 0, 1) := by decide +kernel
theorem dX11_readAll_54 : decode cX11_readAll 54 = .ok (.invokevirtual 112, 3) := by decide +kernel
theorem dX11_readAll_57 : decode cX11_readAll 57 = .ok (.ifCond .ne 5, 3) := by decide +kernel
theorem dX11_readAll_60 : decode cX11_readAll 60 = .ok (.iconst 0, 1) := by decide +kernel
theorem dX11_readAll_61 : decode cX11_readAll 61 = .ok (.ireturn, 1) := by decide +kernel
theorem dX11_readAll_62 : decode cX11_readAll 62 = .ok (.aload_n 0, 1) := by decide +kernel
theorem dX11_readAll_63 : decode cX11_readAll 63 = .ok (.getfield 37, 3) := by decide +kernel
theorem dX11_readAll_66 : decode cX11_readAll 66 = .ok (.iload_n 1, 1) := by decide +kernel
theorem dX11_readAll_67 : decode cX11_readAll 67 = .ok (.aload_n 0, 1) := by decide +kernel
theorem dX11_readAll_68 : decode cX11_readAll 68 = .ok (.invokevirtual 98, 3) := by decide +kernel
theorem dX11_readAll_71 : decode cX11_readAll 71 = .ok (.iastore, 1) := by decide +kernel
theorem dX11_readAll_72 : decode cX11_readAll 72 = .ok (.iinc 1 1, 3) := by decide +kernel
theorem dX11_readAll_75 : decode cX11_readAll 75 = .ok (.goto (-27), 3) := by decide +kernel
theorem dX11_readAll_78 : decode cX11_readAll 78 = .ok (.aload_n 0, 1) := by decide +kernel
theorem dX11_readAll_79 : decode cX11_readAll 79 = .ok (.iconst 1, 1) := by decide +kernel
theorem dX11_readAll_80 : decode cX11_readAll 80 = .ok (.bipush 64, 2) := by decide +kernel
theorem dX11_readAll_82 : decode cX11_readAll 82 = .ok (.invokevirtual 94, 3) := by decide +kernel
theorem dX11_readAll_85 : decode cX11_readAll 85 = .ok (.ifCond .ne 5, 3) := by decide +kernel
theorem dX11_readAll_88 : decode cX11_readAll 88 = .ok (.iconst 0, 1) := by decide +kernel
theorem dX11_readAll_89 : decode cX11_readAll 89 = .ok (.ireturn, 1) := by decide +kernel
theorem dX11_readAll_90 : decode cX11_readAll 90 = .ok (.aload_n 0, 1) := by decide +kernel
theorem dX11_readAll_91 : decode cX11_readAll 91 = .ok (.aload_n 0, 1) := by decide +kernel
theorem dX11_readAll_92 : decode cX11_readAll 92 = .ok (.invokevirtual 98, 3) := by decide +kernel
theorem dX11_readAll_95 : decode cX11_readAll 95 = .ok (.putfield 125, 3) := by decide +kernel
theorem dX11_readAll_98 : decode cX11_readAll 98 = .ok (.iconst 0, 1) := by decide +kernel
theorem dX11_readAll_99 : decode cX11_readAll 99 = .ok (.istore_n 1, 1) := by decide +kernel
theorem dX11_readAll_100 : decode cX11_readAll 100 = .ok (.iload_n 1, 1) := by decide +kernel
theorem dX11_readAll_101 : decode cX11_readAll 101 = .ok (.aload_n 0, 1) := by decide +kernel
theorem dX11_readAll_102 : decode cX11_readAll 102 = .ok (.getfield 125, 3) := by decide +kernel
theorem dX11_readAll_105 : decode cX11_readAll 105 = .ok (.if_icmp .ge 19, 3) := by decide +kernel
theorem dX11_readAll_108 : decode cX11_readAll 108 = .ok (.aload_n 0, 1) := by decide +kernel
theorem dX11_readAll_109 : decode cX11_readAll 109 = .ok (.iload_n 1, 1) := by decide +kernel
theorem dX11_readAll_110 : decode cX11_readAll 110 = .ok (.invokevirtual 128, 3) := by decide +kernel
theorem dX11_readAll_113 : decode cX11_readAll 113 = .ok (.ifCond .ne 5, 3) := by decide +kernel
theorem dX11_readAll_116 : decode cX11_readAll 116 = .ok (.iconst 0, 1) := by decide +kernel
theorem dX11_readAll_117 : decode cX11_readAll 117 = .ok (.ireturn, 1) := by decide +kernel
theorem dX11_readAll_118 : decode cX11_readAll 118 = .ok (.iinc 1 1, 3) := by decide +kernel
theorem dX11_readAll_121 : decode cX11_readAll 121 = .ok (.goto (-21), 3) := by decide +kernel
theorem dX11_readAll_124 : decode cX11_readAll 124 = .ok (.aload_n 0, 1) := by decide +kernel
theorem dX11_readAll_125 : decode cX11_readAll 125 = .ok (.invokevirtual 83, 3) := by decide +kernel
theorem dX11_readAll_128 : decode cX11_readAll 128 = .ok (.istore_n 1, 1) := by decide +kernel
theorem dX11_readAll_129 : decode cX11_readAll 129 = .ok (.iload_n 1, 1) := by decide +kernel
theorem dX11_readAll_130 : decode cX11_readAll 130 = .ok (.aload_n 0, 1) := by decide +kernel
theorem dX11_readAll_131 : decode cX11_readAll 131 = .ok (.getfield 125, 3) := by decide +kernel
theorem dX11_readAll_134 : decode cX11_readAll 134 = .ok (.if_icmp .ge 32, 3) := by decide +kernel
theorem dX11_readAll_137 : decode cX11_readAll 137 = .ok (.aload_n 0, 1) := by decide +kernel
theorem dX11_readAll_138 : decode cX11_readAll 138 = .ok (.getfield 40, 3) := by decide +kernel
theorem dX11_readAll_141 : decode cX11_readAll 141 = .ok (.iload_n 1, 1) := by decide +kernel
theorem dX11_readAll_142 : decode cX11_readAll 142 = .ok (.iaload, 1) := by decide +kernel
theorem dX11_readAll_143 : decode cX11_readAll 143 = .ok (.iconst (-1), 1) := by decide +kernel
theorem dX11_readAll_144 : decode cX11_readAll 144 = .ok (.if_icmp .ne 22, 3) := by decide +kernel
theorem dX11_readAll_147 : decode cX11_readAll 147 = .ok (.aload_n 0, 1) := by decide +kernel
theorem dX11_readAll_148 : decode cX11_readAll 148 = .ok (.getfield 43, 3) := by decide +kernel
theorem dX11_readAll_151 : decode cX11_readAll 151 = .ok (.iload_n 1, 1) := by decide +kernel
theorem dX11_readAll_152 : decode cX11_readAll 152 = .ok (.iaload, 1) := by decide +kernel
theorem dX11_readAll_153 : decode cX11_readAll 153 = .ok (.ifCond .gt 13, 3) := by decide +kernel
theorem dX11_readAll_156 : decode cX11_readAll 156 = .ok (.aload_n 0, 1) := by decide +kernel
theorem dX11_readAll_157 : decode cX11_readAll 157 = .ok (.getfield 49, 3) := by decide +kernel
theorem dX11_readAll_160 : decode cX11_readAll 160 = .ok (.iload_n 1, 1) := by decide +kernel
theorem dX11_readAll_161 : decode cX11_readAll 161 = .ok (.iaload, 1) := by decide +kernel
theorem dX11_readAll_162 : decode cX11_readAll 162 = .ok (.iconst (-1), 1) := by decide +kernel
theorem dX11_readAll_163 : decode cX11_readAll 163 = .ok (.if_icmp .eq 12, 3) := by decide +kernel
theorem dX11_readAll_166 : decode cX11_readAll 166 = .ok (.aload_n 0, 1) := by decide +kernel
theorem dX11_readAll_167 : decode cX11_readAll 167 = .ok (.aload_n 0, 1) := by decide +kernel
theorem dX11_readAll_168 : decode cX11_readAll 168 = .ok (.getfield 77, 3) := by decide +kernel
theorem dX11_readAll_171 : decode cX11_readAll 171 = .ok (.invokevirtual 87, 3) := by decide +kernel
theorem dX11_readAll_174 : decode cX11_readAll 174 = .ok (.ireturn, 1) := by decide +kernel
theorem dX11_readAll_175 : decode cX11_readAll 175 = .ok (.aload_n 0, 1) := by decide +kernel
theorem dX11_readAll_176 : decode cX11_readAll 176 = .ok (.iload_n 1, 1) := by decide +kernel
theorem dX11_readAll_177 : decode cX11_readAll 177 = .ok (.putfield 131, 3) := by decide +kernel
theorem dX11_readAll_180 : decode cX11_readAll 180 = .ok (.aload_n 0, 1) := by decide +kernel
theorem dX11_readAll_181 : decode cX11_readAll 181 = .ok (.dup, 1) := by decide +kernel
theorem dX11_readAll_182 : decode cX11_readAll 182 = .ok (.getfield 77, 3) := by decide +kernel
theorem dX11_readAll_185 : decode cX11_readAll 185 = .ok (.iconst 1, 1) := by decide +kernel
theorem dX11_readAll_186 : decode cX11_readAll 186 = .ok (.iadd, 1) := by decide +kernel
theorem dX11_readAll_187 : decode cX11_readAll 187 = .ok (.putfield 77, 3) := by decide +kernel
theorem dX11_readAll_190 : decode cX11_readAll 190 = .ok (.aload_n 0, 1) := by decide +kernel
theorem dX11_readAll_191 : decode cX11_readAll 191 = .ok (.getfield 77, 3) := by decide +kernel
theorem dX11_readAll_194 : decode cX11_readAll 194 = .ok (.aload_n 0, 1) := by decide +kernel
theorem dX11_readAll_195 : decode cX11_readAll 195 = .ok (.getfield 80, 3) := by decide +kernel
theorem dX11_readAll_198 : decode cX11_readAll 198 = .ok (.if_icmp .eq 14, 3) := by decide +kernel
theorem dX11_readAll_201 : decode cX11_readAll 201 = .ok (.aload_n 0, 1) := by decide +kernel
theorem dX11_readAll_202 : decode cX11_readAll 202 = .ok (.aload_n 0, 1) := by decide +kernel
theorem dX11_readAll_203 : decode cX11_readAll 203 = .ok (.getfield 77, 3) := by decide +kernel
theorem dX11_readAll_206 : decode cX11_readAll 206 = .ok (.invokevirtual 87, 3) := by decide +kernel
theorem dX11_readAll_209 : decode cX11_readAll 209 = .ok (.ifCond .eq 7, 3) := by decide +kernel
theorem dX11_readAll_212 : decode cX11_readAll 212 = .ok (.iconst 1, 1) := by decide +kernel
theorem dX11_readAll_213 : decode cX11_readAll 213 = .ok (.goto 4, 3) := by decide +kernel
theorem dX11_readAll_216 : decode cX11_readAll 216 = .ok (.iconst 0, 1) := by decide +kernel
theorem dX11_readAll_217 : decode cX11_readAll 217 = .ok (.ireturn, 1) := by decide +kernel
def wp_X11_readAll : List Cond := .code yX11_readAll cX11_readAll 2 (some .boolean) :: (((((((([.fieldLink RX11 77 "SteadyMachineModel$Image" "place" "I", .fieldLink RX11 125 "SteadyMachineModel$Image" "methods" "I", .fieldLink RX11 40 "SteadyMachineModel$Image" "owners" "[I", .fieldLink RX11 43 "SteadyMachineModel$Image" "parameterCounts" "[I", .fieldLink RX11 49 "SteadyMachineModel$Image" "gives" "[I", .fieldLink RX11 131 "SteadyMachineModel$Image" "first" "I", .fieldLink RX11 80 "SteadyMachineModel$Image" "size" "I", .fieldLink RX11 37 "SteadyMachineModel$Image" "throwns" "[I", .fieldLink RX11 91 "SteadyMachineModel$Image" "classes" "I"] ++ (wsV RX11 87 RX11 yX11_bad wp_X11_bad)) ++ (wsV RX11 83 RX11 yX11_here wp_X11_here)) ++ (wsV RX11 128 RX11 yX11_readMethod wp_X11_readMethod)) ++ (wsV RX11 94 RX11 yX11_over wp_X11_over)) ++ (wsV RX11 98 RX11 yX11_last wp_X11_last)) ++ (wsV RX11 112 RX11 yX11_overClass wp_X11_overClass)) ++ (wsV RX11 122 RX11 yX11_readClass wp_X11_readClass)) ++ wsX110)
theorem wq_X11_readAll : wp_X11_readAll.all goodWord = true := wa_c rfl (wa_a (wa_a (wa_a (wa_a (wa_a (wa_a (wa_a (wa_a (by decide +kernel) (wa_V wq_X11_bad)) (wa_V wq_X11_here)) (wa_V wq_X11_readMethod)) (wa_V wq_X11_over)) (wa_V wq_X11_last)) (wa_V wq_X11_overClass)) (wa_V wq_X11_readClass)) uq_X11)
theorem wt_X11_readAll : GoodIn lw_tbl wp_X11_readAll := wm_c (List.mem_of_getElem? (i := 1211) (by decide +kernel)) rfl (wm_a (wm_a (wm_a (wm_a (wm_a (wm_a (wm_a (wm_a (goodIn_r _ [1388, 1405, 1407, 1408, 1412, 1427, 1387, 1403, 1392] (by decide +kernel) (by decide +kernel)) (wm_a (goodIn_r _ [1220, 1222, 71, 148] (by decide +kernel) (by decide +kernel)) wt_X11_bad)) (wm_a (goodIn_r _ [1216, 1218, 70, 148] (by decide +kernel) (by decide +kernel)) wt_X11_here)) (wm_a (goodIn_r _ [1240, 1242, 76, 148] (by decide +kernel) (by decide +kernel)) wt_X11_readMethod)) (wm_a (goodIn_r _ [1212, 1214, 69, 148] (by decide +kernel) (by decide +kernel)) wt_X11_over)) (wm_a (goodIn_r _ [1224, 1226, 72, 148] (by decide +kernel) (by decide +kernel)) wt_X11_last)) (wm_a (goodIn_r _ [1236, 1238, 75, 148] (by decide +kernel) (by decide +kernel)) wt_X11_overClass)) (wm_a (goodIn_r _ [1228, 1230, 73, 148] (by decide +kernel) (by decide +kernel)) wt_X11_readClass)) ut_X11)
theorem wg_X11_readAll_X11_bad_87 : GoodIn wp_X11_readAll (wsV RX11 87 RX11 yX11_bad wp_X11_bad) := goodIn_sub (fun w h => List.mem_cons_of_mem _ (List.mem_append_left _ (List.mem_append_left _ (List.mem_append_left _ (List.mem_append_left _ (List.mem_append_left _ (List.mem_append_left _ (List.mem_append_left _ (List.mem_append_right _ h))))))))) (wa_V wq_X11_bad)
theorem wg_X11_readAll_X11_here_83 : GoodIn wp_X11_readAll (wsV RX11 83 RX11 yX11_here wp_X11_here) := goodIn_sub (fun w h => List.mem_cons_of_mem _ (List.mem_append_left _ (List.mem_append_left _ (List.mem_append_left _ (List.mem_append_left _ (List.mem_append_left _ (List.mem_append_left _ (List.mem_append_right _ h)))))))) (wa_V wq_X11_here)
theorem wg_X11_readAll_X11_readMethod_128 : GoodIn wp_X11_readAll (wsV RX11 128 RX11 yX11_readMethod wp_X11_readMethod) := goodIn_sub (fun w h => List.mem_cons_of_mem _ (List.mem_append_left _ (List.mem_append_left _ (List.mem_append_left _ (List.mem_append_left _ (List.mem_append_left _ (List.mem_append_right _ h))))))) (wa_V wq_X11_readMethod)
theorem wg_X11_readAll_X11_over_94 : GoodIn wp_X11_readAll (wsV RX11 94 RX11 yX11_over wp_X11_over) := goodIn_sub (fun w h => List.mem_cons_of_mem _ (List.mem_append_left _ (List.mem_append_left _ (List.mem_append_left _ (List.mem_append_left _ (List.mem_append_right _ h)))))) (wa_V wq_X11_over)
theorem wg_X11_readAll_X11_last_98 : GoodIn wp_X11_readAll (wsV RX11 98 RX11 yX11_last wp_X11_last) := goodIn_sub (fun w h => List.mem_cons_of_mem _ (List.mem_append_left _ (List.mem_append_left _ (List.mem_append_left _ (List.mem_append_right _ h))))) (wa_V wq_X11_last)
theorem wg_X11_readAll_X11_overClass_112 : GoodIn wp_X11_readAll (wsV RX11 112 RX11 yX11_overClass wp_X11_overClass) := goodIn_sub (fun w h => List.mem_cons_of_mem _ (List.mem_append_left _ (List.mem_append_left _ (List.mem_append_right _ h)))) (wa_V wq_X11_overClass)
theorem wg_X11_readAll_X11_readClass_122 : GoodIn wp_X11_readAll (wsV RX11 122 RX11 yX11_readClass wp_X11_readClass) := goodIn_sub (fun w h => List.mem_cons_of_mem _ (List.mem_append_left _ (List.mem_append_right _ h))) (wa_V wq_X11_readClass)
theorem wi_X11_readAll_X11 : ∀ w ∈ wsX110, w ∈ wp_X11_readAll := fun w h => List.mem_cons_of_mem _ (List.mem_append_right _ h)
set_option maxHeartbeats 4000000 in
set_option maxRecDepth 100000 in
theorem c_X11_readAll (l : Launch) (D : va_G) (sz t0 : Nat) (σ : sm_S) (α : sm_A) (K : Int32 → sm_S → Prop) (hF : mp_X11_readAll σ K) : Met l yX11_readAll wp_X11_readAll { frames := 5, cells := 0, slots := 0, locals := 116 } (sm_P sm_wM sm_tM 40 D sz t0 σ α [.ref (α.1 0)]) (va_Qi K (sm_B sm_wM D α) (sm_a α 40 sz)) 0 0 (sm_a α 40 sz) := by
  refine Met.ofW (cc := cX11_readAll) (maxL := 2) (ret := (some .boolean)) (by decide) rfl ?_
  intro p e s m args below meth c s₁ B hml hv
  obtain ⟨rfl, hsz, hP, hK, hD0, hE⟩ := hv
  have hx := B.exec
  have hb := B.bytes
  have hr := B.returns
  have hts := atoms_spec (ws := wp_X11_readAll) B.pre
  have hown : s.vm.findClass RX11 = some m.cls := findClass_of_methodNamed B.named
  have hlocks := B.notSynchronized
  subst hsz
  have hD : sm_D (sm_a α 40 s.heap.size) α 40 := hD0.own
  have hA : ∀ q : Nat, s.heap.size ≤ q → sm_a α 40 s.heap.size q := fun q h => Or.inr h
  generalize hAe : sm_a α 40 s.heap.size = A at hD hA hE ⊢
  have hS : va_S A s.heap s.heap [] := va_S.rf
  have in_X11 : ∀ w ∈ wsX110, w ∈ wp_X11_readAll := wi_X11_readAll_X11
  have k_0 := hts (.fieldLink RX11 77 "SteadyMachineModel$Image" "place" "I") (by decide +kernel)
  have k_1 := hts (.fieldLink RX11 125 "SteadyMachineModel$Image" "methods" "I") (by decide +kernel)
  have k_2 := hts (.fieldLink RX11 40 "SteadyMachineModel$Image" "owners" "[I") (by decide +kernel)
  have k_3 := hts (.fieldLink RX11 43 "SteadyMachineModel$Image" "parameterCounts" "[I") (by decide +kernel)
  have k_4 := hts (.fieldLink RX11 49 "SteadyMachineModel$Image" "gives" "[I") (by decide +kernel)
  have k_5 := hts (.fieldLink RX11 131 "SteadyMachineModel$Image" "first" "I") (by decide +kernel)
  have k_6 := hts (.fieldLink RX11 80 "SteadyMachineModel$Image" "size" "I") (by decide +kernel)
  have k_7 := hts (.fieldLink RX11 37 "SteadyMachineModel$Image" "throwns" "[I") (by decide +kernel)
  have k_8 := hts (.fieldLink RX11 91 "SteadyMachineModel$Image" "classes" "I") (by decide +kernel)
  have hl := lv_entry ([.ref (α.1 0)]) (n := 2) (Nat.le_of_ble_eq_true rfl)
  rw [lg_entry_eq]
  generalize (lg_sl ([.ref (α.1 0)]) ++ List.replicate (2 - (lg_sl ([.ref (α.1 0)])).length) Slot.unset).toArray = ls at hl ⊢
  have hl : lv_has ls 2 [(0, .ref (α.1 0))] := hl
  have B217 : ∀ (σ : sm_S) (y0 : Int32), mp_X11_readAll_217 K σ y0 → sm_J p l e (headSpec wp_X11_readAll { frames := 5, cells := 0, slots := 0, locals := 116 }).room s m ([.ref (α.1 0)] : List Value).toArray below meth c (MQ below (va_Qi K (sm_B sm_wM D α) A) ([.ref (α.1 0)] : List Value).toArray s 0 0 A) D A 2 (sm_wM σ α) 217 [] [.int y0] := by
    intro σ y0 hF H locs ls hP hS hl
    unfold mp_X11_readAll_217 at hF
    obtain ⟨h1, hF⟩ := hF
    exact W.zret (v := y0) hx hb hr h1.1 (fun t ht hW => ⟨⟨y0, σ, rfl, hF, (by unfold sm_B; rw [ht]; exact hP)⟩, hS.F ht⟩) hS.2.2 dX11_readAll_217
  have B212 : ∀ (σ : sm_S), mp_X11_readAll_212 K σ → sm_J p l e (headSpec wp_X11_readAll { frames := 5, cells := 0, slots := 0, locals := 116 }).room s m ([.ref (α.1 0)] : List Value).toArray below meth c (MQ below (va_Qi K (sm_B sm_wM D α) A) ([.ref (α.1 0)] : List Value).toArray s 0 0 A) D A 2 (sm_wM σ α) 212 [] [] := by
    intro σ hF H locs ls hP hS hl
    unfold mp_X11_readAll_212 at hF
    refine lv_iconst (v := 1) hx hb dX11_readAll_212 (by decide) ?_
    refine lv_goto (tgt := 217) hx hb dX11_readAll_213 (by decide) ?_
    exact B217 σ 1 hF H locs ls hP hS (lv_sub hl [] rfl)
  have B166 : ∀ (σ : sm_S), mp_X11_readAll_166 K σ → sm_J p l e (headSpec wp_X11_readAll { frames := 5, cells := 0, slots := 0, locals := 116 }).room s m ([.ref (α.1 0)] : List Value).toArray below meth c (MQ below (va_Qi K (sm_B sm_wM D α) A) ([.ref (α.1 0)] : List Value).toArray s 0 0 A) D A 2 (sm_wM σ α) 166 [(0, .ref (α.1 0))] [] := by
    intro σ hF H locs ls hP hS hl
    unfold mp_X11_readAll_166 at hF
    refine lv_aload_n hx hb dX11_readAll_166 rfl (lv_at hl 0 rfl) ?_
    refine lv_aload_n hx hb dX11_readAll_167 rfl (lv_at hl 0 rfl) ?_
    refine va_get (D := D) (ci := 11) (v := .int (σ.1 2)) (C := RX11) (T := TX11) (N := 28) hx hb hts in_X11 hown hK hP 0 (sm_gX11 σ α) rfl 5 (by decide) k_0 (fun _ h9 => h9) rfl dX11_readAll_168 ?_
    refine sm_vi (As := [.int (σ.1 2)]) (rest := []) hP hK hD hE hS hA ⟨hx, hb, hml, hown, hts⟩ hl.1 (c_X11_bad l D H.size t0 σ α (σ.1 2) _ hF) (cwV 1 hts wg_X11_readAll_X11_bad_87 rfl rfl rfl (by decide +kernel) ⟨Nat.le_of_ble_eq_true rfl, Nat.le_of_ble_eq_true rfl⟩) (va_recv hK hP (ci := 11) (q0 := 0) rfl (sm_gX11 σ α)) rfl rfl (Nat.le_of_ble_eq_true rfl) dX11_readAll_171 ⟨Nat.zero_le _, Nat.zero_le _⟩ (fun r3 σ2 H locs hF hP hS => ?_)
    obtain ⟨h4, hF⟩ := hF
    exact W.zret (v := r3) hx hb hr h4.1 (fun t ht hW => ⟨⟨r3, σ2, rfl, hF, (by unfold sm_B; rw [ht]; exact hP)⟩, hS.F ht⟩) hS.2.2 dX11_readAll_174
  have B100 : ∀ (n : Nat) (σ : sm_S) (x1 : Int32), mp_X11_readAll_100 K n σ x1 → sm_J p l e (headSpec wp_X11_readAll { frames := 5, cells := 0, slots := 0, locals := 116 }).room s m ([.ref (α.1 0)] : List Value).toArray below meth c (MQ below (va_Qi K (sm_B sm_wM D α) A) ([.ref (α.1 0)] : List Value).toArray s 0 0 A) D A 2 (sm_wM σ α) 100 [(0, .ref (α.1 0)), (1, .int x1)] [] := by
    intro n100
    induction n100 with
    | zero =>
      intro σ x1 hF
      exact hF.elim
    | succ n100 ih100 =>
      intro σ x1 hF H locs ls hP hS hl
      unfold mp_X11_readAll_100 at hF
      refine lv_iload_n hx hb dX11_readAll_100 rfl (lv_at hl 1 rfl) ?_
      refine lv_aload_n hx hb dX11_readAll_101 rfl (lv_at hl 0 rfl) ?_
      refine va_get (D := D) (ci := 11) (v := .int (σ.1 6)) (C := RX11) (T := TX11) (N := 28) hx hb hts in_X11 hown hK hP 0 (sm_gX11 σ α) rfl 15 (by decide) k_1 (fun _ h9 => h9) rfl dX11_readAll_102 ?_
      refine lv_icmp_ge (tgt := 124) hx hb dX11_readAll_105 (by decide) (fun h5 => ?_) (fun h5 => ?_)
      · replace hF := hF.1 h5
        refine lv_aload_n hx hb dX11_readAll_124 rfl (lv_at hl 0 rfl) ?_
        refine sm_vi (As := []) (rest := []) hP hK hD hE hS hA ⟨hx, hb, hml, hown, hts⟩ hl.1 (c_X11_here l D H.size t0 σ α _ hF) (cwV 0 hts wg_X11_readAll_X11_here_83 rfl rfl rfl (by decide +kernel) ⟨Nat.le_of_ble_eq_true rfl, Nat.le_of_ble_eq_true rfl⟩) (va_recv hK hP (ci := 11) (q0 := 0) rfl (sm_gX11 σ α)) rfl rfl (Nat.le_of_ble_eq_true rfl) dX11_readAll_125 ⟨Nat.zero_le _, Nat.zero_le _⟩ (fun r7 σ6 H locs hF hP hS => ?_)
        refine lv_istore_n (lv' := [(1, .int r7), (0, .ref (α.1 0))]) hx hb dX11_readAll_128 rfl hl (by decide) rfl (fun ls hl => ?_)
        refine lv_iload_n hx hb dX11_readAll_129 rfl (lv_at hl 0 rfl) ?_
        refine lv_aload_n hx hb dX11_readAll_130 rfl (lv_at hl 1 rfl) ?_
        refine va_get (D := D) (ci := 11) (v := .int (σ6.1 6)) (C := RX11) (T := TX11) (N := 28) hx hb hts in_X11 hown hK hP 0 (sm_gX11 σ6 α) rfl 15 (by decide) k_1 (fun _ h9 => h9) rfl dX11_readAll_131 ?_
        refine lv_icmp_ge (tgt := 166) hx hb dX11_readAll_134 (by decide) (fun h8 => ?_) (fun h8 => ?_)
        · replace hF := hF.1 h8
          exact B166 σ6 hF H locs ls hP hS (lv_sub hl [1] rfl)
        · replace hF := hF.2 h8
          refine lv_aload_n hx hb dX11_readAll_137 rfl (lv_at hl 1 rfl) ?_
          refine va_get (D := D) (ci := 11) (v := .ref (α.1 11)) (C := RX11) (T := TX11) (N := 28) hx hb hts in_X11 hown hK hP 0 (sm_gX11 σ6 α) rfl 16 (by decide) k_2 (fun _ h9 => h9) rfl dX11_readAll_138 ?_
          refine lv_iload_n hx hb dX11_readAll_141 rfl (lv_at hl 0 rfl) ?_
          obtain ⟨h9, hF⟩ := hF
          refine va_iald (n := (σ6.2.2.1 11)) (f := (σ6.2.2.2.1 11)) hx hb hK hP 11 9 (sm_aM11 σ6 α) (sm_yM11 α) h9 dX11_readAll_142 ?_
          refine lv_iconst (v := -1) hx hb dX11_readAll_143 (by decide) ?_
          refine lv_icmp_ne (tgt := 166) hx hb dX11_readAll_144 (by decide) (fun h10 => ?_) (fun h10 => ?_)
          · replace hF := hF.1 h10
            exact B166 σ6 hF H locs ls hP hS (lv_sub hl [1] rfl)
          · replace hF := hF.2 h10
            refine lv_aload_n hx hb dX11_readAll_147 rfl (lv_at hl 1 rfl) ?_
            refine va_get (D := D) (ci := 11) (v := .ref (α.1 12)) (C := RX11) (T := TX11) (N := 28) hx hb hts in_X11 hown hK hP 0 (sm_gX11 σ6 α) rfl 17 (by decide) k_3 (fun _ h9 => h9) rfl dX11_readAll_148 ?_
            refine lv_iload_n hx hb dX11_readAll_151 rfl (lv_at hl 0 rfl) ?_
            obtain ⟨h11, hF⟩ := hF
            refine va_iald (n := (σ6.2.2.1 12)) (f := (σ6.2.2.2.1 12)) hx hb hK hP 12 10 (sm_aM12 σ6 α) (sm_yM12 α) h11 dX11_readAll_152 ?_
            refine lv_if_gt (tgt := 166) hx hb dX11_readAll_153 (by decide) (fun h12 => ?_) (fun h12 => ?_)
            · replace hF := hF.1 h12
              exact B166 σ6 hF H locs ls hP hS (lv_sub hl [1] rfl)
            · replace hF := hF.2 h12
              refine lv_aload_n hx hb dX11_readAll_156 rfl (lv_at hl 1 rfl) ?_
              refine va_get (D := D) (ci := 11) (v := .ref (α.1 14)) (C := RX11) (T := TX11) (N := 28) hx hb hts in_X11 hown hK hP 0 (sm_gX11 σ6 α) rfl 19 (by decide) k_4 (fun _ h9 => h9) rfl dX11_readAll_157 ?_
              refine lv_iload_n hx hb dX11_readAll_160 rfl (lv_at hl 0 rfl) ?_
              obtain ⟨h13, hF⟩ := hF
              refine va_iald (n := (σ6.2.2.1 14)) (f := (σ6.2.2.2.1 14)) hx hb hK hP 14 12 (sm_aM14 σ6 α) (sm_yM14 α) h13 dX11_readAll_161 ?_
              refine lv_iconst (v := -1) hx hb dX11_readAll_162 (by decide) ?_
              refine lv_icmp_eq (tgt := 175) hx hb dX11_readAll_163 (by decide) (fun h14 => ?_) (fun h14 => ?_)
              · replace hF := hF.1 h14
                refine lv_aload_n hx hb dX11_readAll_175 rfl (lv_at hl 1 rfl) ?_
                refine lv_iload_n hx hb dX11_readAll_176 rfl (lv_at hl 0 rfl) ?_
                refine va_put (D := D) (ci := 11) (v := .int r7) (ty := .int) (C := RX11) (T := TX11) (N := 28) hx hb hts in_X11 tyX11 tyX11_ok nmX11 hown hK hP (hD.to (sm_wM_m _ _)) hS 0 (sm_gX11 σ6 α) rfl 27 (by decide) k_5 (fun _ h9 => h9) rfl (by decide +kernel) rfl rfl (Nat.le_of_ble_eq_true rfl) dX11_readAll_177 (fun H locs hP _ hS => ?_)
                rw [sm_iM8] at hP
                obtain ⟨σ15, eσ15⟩ : ∃ x : sm_S, x = sm_i σ6 8 r7 := ⟨_, rfl⟩
                replace hF := hF σ15 eσ15
                rw [← eσ15] at hP
                refine lv_aload_n hx hb dX11_readAll_180 rfl (lv_at hl 1 rfl) ?_
                refine lv_dup hx hb dX11_readAll_181 rfl ?_
                refine va_get (D := D) (ci := 11) (v := .int (σ15.1 2)) (C := RX11) (T := TX11) (N := 28) hx hb hts in_X11 hown hK hP 0 (sm_gX11 σ15 α) rfl 5 (by decide) k_0 (fun _ h9 => h9) rfl dX11_readAll_182 ?_
                refine lv_iconst (v := 1) hx hb dX11_readAll_185 (by decide) ?_
                refine lv_iadd hx hb dX11_readAll_186 ?_
                refine va_put (D := D) (ci := 11) (v := .int ((σ15.1 2) + 1)) (ty := .int) (C := RX11) (T := TX11) (N := 28) hx hb hts in_X11 tyX11 tyX11_ok nmX11 hown hK hP (hD.to (sm_wM_m _ _)) hS 0 (sm_gX11 σ15 α) rfl 5 (by decide) k_0 (fun _ h9 => h9) rfl (by decide +kernel) rfl rfl (Nat.le_of_ble_eq_true rfl) dX11_readAll_187 (fun H locs hP _ hS => ?_)
                rw [sm_iM2] at hP
                obtain ⟨σ16, eσ16⟩ : ∃ x : sm_S, x = sm_i σ15 2 ((σ15.1 2) + 1) := ⟨_, rfl⟩
                replace hF := hF σ16 eσ16
                rw [← eσ16] at hP
                refine lv_aload_n hx hb dX11_readAll_190 rfl (lv_at hl 1 rfl) ?_
                refine va_get (D := D) (ci := 11) (v := .int (σ16.1 2)) (C := RX11) (T := TX11) (N := 28) hx hb hts in_X11 hown hK hP 0 (sm_gX11 σ16 α) rfl 5 (by decide) k_0 (fun _ h9 => h9) rfl dX11_readAll_191 ?_
                refine lv_aload_n hx hb dX11_readAll_194 rfl (lv_at hl 1 rfl) ?_
                refine va_get (D := D) (ci := 11) (v := .int (σ16.1 1)) (C := RX11) (T := TX11) (N := 28) hx hb hts in_X11 hown hK hP 0 (sm_gX11 σ16 α) rfl 4 (by decide) k_6 (fun _ h9 => h9) rfl dX11_readAll_195 ?_
                refine lv_icmp_eq (tgt := 212) hx hb dX11_readAll_198 (by decide) (fun h17 => ?_) (fun h17 => ?_)
                · replace hF := hF.1 h17
                  exact B212 σ16 hF H locs ls hP hS (lv_sub hl [] rfl)
                · replace hF := hF.2 h17
                  refine lv_aload_n hx hb dX11_readAll_201 rfl (lv_at hl 1 rfl) ?_
                  refine lv_aload_n hx hb dX11_readAll_202 rfl (lv_at hl 1 rfl) ?_
                  refine va_get (D := D) (ci := 11) (v := .int (σ16.1 2)) (C := RX11) (T := TX11) (N := 28) hx hb hts in_X11 hown hK hP 0 (sm_gX11 σ16 α) rfl 5 (by decide) k_0 (fun _ h9 => h9) rfl dX11_readAll_203 ?_
                  refine sm_vi (As := [.int (σ16.1 2)]) (rest := []) hP hK hD hE hS hA ⟨hx, hb, hml, hown, hts⟩ hl.1 (c_X11_bad l D H.size t0 σ16 α (σ16.1 2) _ hF) (cwV 1 hts wg_X11_readAll_X11_bad_87 rfl rfl rfl (by decide +kernel) ⟨Nat.le_of_ble_eq_true rfl, Nat.le_of_ble_eq_true rfl⟩) (va_recv hK hP (ci := 11) (q0 := 0) rfl (sm_gX11 σ16 α)) rfl rfl (Nat.le_of_ble_eq_true rfl) dX11_readAll_206 ⟨Nat.zero_le _, Nat.zero_le _⟩ (fun r19 σ18 H locs hF hP hS => ?_)
                  refine lv_if_eq (tgt := 216) hx hb dX11_readAll_209 (by decide) (fun h20 => ?_) (fun h20 => ?_)
                  · replace hF := hF.1 h20
                    refine lv_iconst (v := 0) hx hb dX11_readAll_216 (by decide) ?_
                    exact B217 σ18 0 hF H locs ls hP hS (lv_sub hl [] rfl)
                  · replace hF := hF.2 h20
                    exact B212 σ18 hF H locs ls hP hS (lv_sub hl [] rfl)
              · replace hF := hF.2 h14
                exact B166 σ6 hF H locs ls hP hS (lv_sub hl [1] rfl)
      · replace hF := hF.2 h5
        refine lv_aload_n hx hb dX11_readAll_108 rfl (lv_at hl 0 rfl) ?_
        refine lv_iload_n hx hb dX11_readAll_109 rfl (lv_at hl 1 rfl) ?_
        refine sm_vi (As := [.int x1]) (rest := []) hP hK hD hE hS hA ⟨hx, hb, hml, hown, hts⟩ hl.1 (c_X11_readMethod l D H.size t0 σ α x1 _ hF) (cwV 1 hts wg_X11_readAll_X11_readMethod_128 rfl rfl rfl (by decide +kernel) ⟨Nat.le_of_ble_eq_true rfl, Nat.le_of_ble_eq_true rfl⟩) (va_recv hK hP (ci := 11) (q0 := 0) rfl (sm_gX11 σ α)) rfl rfl (Nat.le_of_ble_eq_true rfl) dX11_readAll_110 ⟨Nat.zero_le _, Nat.zero_le _⟩ (fun r22 σ21 H locs hF hP hS => ?_)
        refine lv_if_ne (tgt := 118) hx hb dX11_readAll_113 (by decide) (fun h23 => ?_) (fun h23 => ?_)
        · replace hF := hF.1 h23
          obtain ⟨v24, ev24⟩ : ∃ y : Int32, y = x1 + 1 := ⟨_, rfl⟩
          replace hF := hF v24 ev24
          refine lv_iinc (v := v24) (lv' := [(1, .int v24), (0, .ref (α.1 0))]) hx hb dX11_readAll_118 hl (k := 1) rfl (by rw [ev24]; rfl) (by decide) rfl (fun ls hl => ?_)
          refine lv_goto (tgt := 100) hx hb dX11_readAll_121 (by decide) ?_
          exact ih100 σ21 v24 hF H locs ls hP hS (lv_sub hl [1, 0] rfl)
        · replace hF := hF.2 h23
          refine lv_iconst (v := 0) hx hb dX11_readAll_116 (by decide) ?_
          exact W.zret (v := 0) hx hb hr sm_z0.1 (fun t ht hW => ⟨⟨0, σ21, rfl, hF, (by unfold sm_B; rw [ht]; exact hP)⟩, hS.F ht⟩) hS.2.2 dX11_readAll_117
  have B48 : ∀ (n : Nat) (σ : sm_S) (x1 : Int32), mp_X11_readAll_48 K n σ x1 → sm_J p l e (headSpec wp_X11_readAll { frames := 5, cells := 0, slots := 0, locals := 116 }).room s m ([.ref (α.1 0)] : List Value).toArray below meth c (MQ below (va_Qi K (sm_B sm_wM D α) A) ([.ref (α.1 0)] : List Value).toArray s 0 0 A) D A 2 (sm_wM σ α) 48 [(0, .ref (α.1 0)), (1, .int x1)] [] := by
    intro n48
    induction n48 with
    | zero =>
      intro σ x1 hF
      exact hF.elim
    | succ n48 ih48 =>
      intro σ x1 hF H locs ls hP hS hl
      unfold mp_X11_readAll_48 at hF
      refine lv_iload_n hx hb dX11_readAll_48 rfl (lv_at hl 1 rfl) ?_
      refine lv_iconst (v := 5) hx hb dX11_readAll_49 (by decide) ?_
      refine lv_icmp_ge (tgt := 78) hx hb dX11_readAll_50 (by decide) (fun h25 => ?_) (fun h25 => ?_)
      · replace hF := hF.1 h25
        refine lv_aload_n hx hb dX11_readAll_78 rfl (lv_at hl 0 rfl) ?_
        refine lv_iconst (v := 1) hx hb dX11_readAll_79 (by decide) ?_
        refine lv_bipush (v := 64) hx hb dX11_readAll_80 (by decide) ?_
        refine sm_vi (As := [.int 1, .int 64]) (rest := []) hP hK hD hE hS hA ⟨hx, hb, hml, hown, hts⟩ hl.1 (c_X11_over l D H.size t0 σ α 1 64 _ hF) (cwV 2 hts wg_X11_readAll_X11_over_94 rfl rfl rfl (by decide +kernel) ⟨Nat.le_of_ble_eq_true rfl, Nat.le_of_ble_eq_true rfl⟩) (va_recv hK hP (ci := 11) (q0 := 0) rfl (sm_gX11 σ α)) rfl rfl (Nat.le_of_ble_eq_true rfl) dX11_readAll_82 ⟨Nat.zero_le _, Nat.zero_le _⟩ (fun r27 σ26 H locs hF hP hS => ?_)
        refine lv_if_ne (tgt := 90) hx hb dX11_readAll_85 (by decide) (fun h28 => ?_) (fun h28 => ?_)
        · replace hF := hF.1 h28
          refine lv_aload_n hx hb dX11_readAll_90 rfl (lv_at hl 0 rfl) ?_
          refine lv_aload_n hx hb dX11_readAll_91 rfl (lv_at hl 0 rfl) ?_
          refine sm_vi (As := []) (rest := [.ref (α.1 0)]) hP hK hD hE hS hA ⟨hx, hb, hml, hown, hts⟩ hl.1 (c_X11_last l D H.size t0 σ26 α _ hF) (cwV 0 hts wg_X11_readAll_X11_last_98 rfl rfl rfl (by decide +kernel) ⟨Nat.le_of_ble_eq_true rfl, Nat.le_of_ble_eq_true rfl⟩) (va_recv hK hP (ci := 11) (q0 := 0) rfl (sm_gX11 σ26 α)) rfl rfl (Nat.le_of_ble_eq_true rfl) dX11_readAll_92 ⟨Nat.zero_le _, Nat.zero_le _⟩ (fun r30 σ29 H locs hF hP hS => ?_)
          refine va_put (D := D) (ci := 11) (v := .int r30) (ty := .int) (C := RX11) (T := TX11) (N := 28) hx hb hts in_X11 tyX11 tyX11_ok nmX11 hown hK hP (hD.to (sm_wM_m _ _)) hS 0 (sm_gX11 σ29 α) rfl 15 (by decide) k_1 (fun _ h9 => h9) rfl (by decide +kernel) rfl rfl (Nat.le_of_ble_eq_true rfl) dX11_readAll_95 (fun H locs hP _ hS => ?_)
          rw [sm_iM6] at hP
          obtain ⟨σ31, eσ31⟩ : ∃ x : sm_S, x = sm_i σ29 6 r30 := ⟨_, rfl⟩
          replace hF := hF σ31 eσ31
          rw [← eσ31] at hP
          refine lv_iconst (v := 0) hx hb dX11_readAll_98 (by decide) ?_
          refine lv_istore_n (lv' := [(1, .int 0), (0, .ref (α.1 0))]) hx hb dX11_readAll_99 rfl hl (by decide) rfl (fun ls hl => ?_)
          obtain ⟨n100, hF⟩ := hF
          exact B100 n100 σ31 0 hF H locs ls hP hS (lv_sub hl [1, 0] rfl)
        · replace hF := hF.2 h28
          refine lv_iconst (v := 0) hx hb dX11_readAll_88 (by decide) ?_
          exact W.zret (v := 0) hx hb hr sm_z0.1 (fun t ht hW => ⟨⟨0, σ26, rfl, hF, (by unfold sm_B; rw [ht]; exact hP)⟩, hS.F ht⟩) hS.2.2 dX11_readAll_89
      · replace hF := hF.2 h25
        refine lv_aload_n hx hb dX11_readAll_53 rfl (lv_at hl 0 rfl) ?_
        refine sm_vi (As := []) (rest := []) hP hK hD hE hS hA ⟨hx, hb, hml, hown, hts⟩ hl.1 (c_X11_overClass l D H.size t0 σ α _ hF) (cwV 0 hts wg_X11_readAll_X11_overClass_112 rfl rfl rfl (by decide +kernel) ⟨Nat.le_of_ble_eq_true rfl, Nat.le_of_ble_eq_true rfl⟩) (va_recv hK hP (ci := 11) (q0 := 0) rfl (sm_gX11 σ α)) rfl rfl (Nat.le_of_ble_eq_true rfl) dX11_readAll_54 ⟨Nat.zero_le _, Nat.zero_le _⟩ (fun r33 σ32 H locs hF hP hS => ?_)
        refine lv_if_ne (tgt := 62) hx hb dX11_readAll_57 (by decide) (fun h34 => ?_) (fun h34 => ?_)
        · replace hF := hF.1 h34
          refine lv_aload_n hx hb dX11_readAll_62 rfl (lv_at hl 0 rfl) ?_
          refine va_get (D := D) (ci := 11) (v := .ref (α.1 10)) (C := RX11) (T := TX11) (N := 28) hx hb hts in_X11 hown hK hP 0 (sm_gX11 σ32 α) rfl 14 (by decide) k_7 (fun _ h9 => h9) rfl dX11_readAll_63 ?_
          refine lv_iload_n hx hb dX11_readAll_66 rfl (lv_at hl 1 rfl) ?_
          refine lv_aload_n hx hb dX11_readAll_67 rfl (lv_at hl 0 rfl) ?_
          refine sm_vi (As := []) (rest := [.int x1, .ref (α.1 10)]) hP hK hD hE hS hA ⟨hx, hb, hml, hown, hts⟩ hl.1 (c_X11_last l D H.size t0 σ32 α _ hF) (cwV 0 hts wg_X11_readAll_X11_last_98 rfl rfl rfl (by decide +kernel) ⟨Nat.le_of_ble_eq_true rfl, Nat.le_of_ble_eq_true rfl⟩) (va_recv hK hP (ci := 11) (q0 := 0) rfl (sm_gX11 σ32 α)) rfl rfl (Nat.le_of_ble_eq_true rfl) dX11_readAll_68 ⟨Nat.zero_le _, Nat.zero_le _⟩ (fun r36 σ35 H locs hF hP hS => ?_)
          obtain ⟨h37, hF⟩ := hF
          refine va_iast (n := (σ35.2.2.1 10)) (f := (σ35.2.2.2.1 10)) (x := r36) hx hb hK hP (hD.to (sm_wM_m _ _)) hS 10 8 (sm_aM10 σ35 α) (sm_yM10 α) h37 dX11_readAll_71 (fun H locs hP _ hS => ?_)
          rw [sm_rM10] at hP
          obtain ⟨σ38, eσ38⟩ : ∃ x : sm_S, x = sm_r σ35 10 (upd (σ35.2.2.2.1 10) x1.toNatClampNeg r36) := ⟨_, rfl⟩
          replace hF := hF σ38 eσ38
          rw [← eσ38] at hP
          obtain ⟨v39, ev39⟩ : ∃ y : Int32, y = x1 + 1 := ⟨_, rfl⟩
          replace hF := hF v39 ev39
          refine lv_iinc (v := v39) (lv' := [(1, .int v39), (0, .ref (α.1 0))]) hx hb dX11_readAll_72 hl (k := 1) rfl (by rw [ev39]; rfl) (by decide) rfl (fun ls hl => ?_)
          refine lv_goto (tgt := 48) hx hb dX11_readAll_75 (by decide) ?_
          exact ih48 σ38 v39 hF H locs ls hP hS (lv_sub hl [1, 0] rfl)
        · replace hF := hF.2 h34
          refine lv_iconst (v := 0) hx hb dX11_readAll_60 (by decide) ?_
          exact W.zret (v := 0) hx hb hr sm_z0.1 (fun t ht hW => ⟨⟨0, σ32, rfl, hF, (by unfold sm_B; rw [ht]; exact hP)⟩, hS.F ht⟩) hS.2.2 dX11_readAll_61
  have B22 : ∀ (n : Nat) (σ : sm_S) (x1 : Int32), mp_X11_readAll_22 K n σ x1 → sm_J p l e (headSpec wp_X11_readAll { frames := 5, cells := 0, slots := 0, locals := 116 }).room s m ([.ref (α.1 0)] : List Value).toArray below meth c (MQ below (va_Qi K (sm_B sm_wM D α) A) ([.ref (α.1 0)] : List Value).toArray s 0 0 A) D A 2 (sm_wM σ α) 22 [(0, .ref (α.1 0)), (1, .int x1)] [] := by
    intro n22
    induction n22 with
    | zero =>
      intro σ x1 hF
      exact hF.elim
    | succ n22 ih22 =>
      intro σ x1 hF H locs ls hP hS hl
      unfold mp_X11_readAll_22 at hF
      refine lv_iload_n hx hb dX11_readAll_22 rfl (lv_at hl 1 rfl) ?_
      refine lv_aload_n hx hb dX11_readAll_23 rfl (lv_at hl 0 rfl) ?_
      refine va_get (D := D) (ci := 11) (v := .int (σ.1 5)) (C := RX11) (T := TX11) (N := 28) hx hb hts in_X11 hown hK hP 0 (sm_gX11 σ α) rfl 8 (by decide) k_8 (fun _ h9 => h9) rfl dX11_readAll_24 ?_
      refine lv_icmp_ge (tgt := 46) hx hb dX11_readAll_27 (by decide) (fun h40 => ?_) (fun h40 => ?_)
      · replace hF := hF.1 h40
        refine lv_iconst (v := 0) hx hb dX11_readAll_46 (by decide) ?_
        refine lv_istore_n (lv' := [(1, .int 0), (0, .ref (α.1 0))]) hx hb dX11_readAll_47 rfl hl (by decide) rfl (fun ls hl => ?_)
        obtain ⟨n48, hF⟩ := hF
        exact B48 n48 σ 0 hF H locs ls hP hS (lv_sub hl [1, 0] rfl)
      · replace hF := hF.2 h40
        refine lv_aload_n hx hb dX11_readAll_30 rfl (lv_at hl 0 rfl) ?_
        refine lv_iload_n hx hb dX11_readAll_31 rfl (lv_at hl 1 rfl) ?_
        refine sm_vi (As := [.int x1]) (rest := []) hP hK hD hE hS hA ⟨hx, hb, hml, hown, hts⟩ hl.1 (c_X11_readClass l D H.size t0 σ α x1 _ hF) (cwV 1 hts wg_X11_readAll_X11_readClass_122 rfl rfl rfl (by decide +kernel) ⟨Nat.le_of_ble_eq_true rfl, Nat.le_of_ble_eq_true rfl⟩) (va_recv hK hP (ci := 11) (q0 := 0) rfl (sm_gX11 σ α)) rfl rfl (Nat.le_of_ble_eq_true rfl) dX11_readAll_32 ⟨Nat.zero_le _, Nat.zero_le _⟩ (fun r42 σ41 H locs hF hP hS => ?_)
        refine lv_if_ne (tgt := 40) hx hb dX11_readAll_35 (by decide) (fun h43 => ?_) (fun h43 => ?_)
        · replace hF := hF.1 h43
          obtain ⟨v44, ev44⟩ : ∃ y : Int32, y = x1 + 1 := ⟨_, rfl⟩
          replace hF := hF v44 ev44
          refine lv_iinc (v := v44) (lv' := [(1, .int v44), (0, .ref (α.1 0))]) hx hb dX11_readAll_40 hl (k := 1) rfl (by rw [ev44]; rfl) (by decide) rfl (fun ls hl => ?_)
          refine lv_goto (tgt := 22) hx hb dX11_readAll_43 (by decide) ?_
          exact ih22 σ41 v44 hF H locs ls hP hS (lv_sub hl [1, 0] rfl)
        · replace hF := hF.2 h43
          refine lv_iconst (v := 0) hx hb dX11_readAll_38 (by decide) ?_
          exact W.zret (v := 0) hx hb hr sm_z0.1 (fun t ht hW => ⟨⟨0, σ41, rfl, hF, (by unfold sm_B; rw [ht]; exact hP)⟩, hS.F ht⟩) hS.2.2 dX11_readAll_39
  unfold mp_X11_readAll at hF
  revert hP hS
  generalize hLo : ([] : List Loc) = locs
  suffices h9 : ∀ (H : Heap) (locs : List Loc), va_P D vwCl (sm_wM σ α) H → va_S A s.heap H locs → W p l e (headSpec wp_X11_readAll { frames := 5, cells := 0, slots := 0, locals := 116 }).room s m ([.ref (α.1 0)] : List Value).toArray below meth c H locs 0 0 (MQ below (va_Qi K (sm_B sm_wM D α) A) ([.ref (α.1 0)] : List Value).toArray s 0 0 A) (F0 m 0 ls []) from fun hP hS => h9 s.heap locs hP hS
  intro H locs hP hS
  refine lv_aload_n hx hb dX11_readAll_0 rfl (lv_at hl 0 rfl) ?_
  refine lv_iconst (v := 1) hx hb dX11_readAll_1 (by decide) ?_
  refine lv_bipush (v := 32) hx hb dX11_readAll_2 (by decide) ?_
  refine sm_vi (As := [.int 1, .int 32]) (rest := []) hP hK hD hE hS hA ⟨hx, hb, hml, hown, hts⟩ hl.1 (c_X11_over l D H.size t0 σ α 1 32 _ hF) (cwV 2 hts wg_X11_readAll_X11_over_94 rfl rfl rfl (by decide +kernel) ⟨Nat.le_of_ble_eq_true rfl, Nat.le_of_ble_eq_true rfl⟩) (va_recv hK hP (ci := 11) (q0 := 0) rfl (sm_gX11 σ α)) rfl rfl (Nat.le_of_ble_eq_true rfl) dX11_readAll_4 ⟨Nat.zero_le _, Nat.zero_le _⟩ (fun r46 σ45 H locs hF hP hS => ?_)
  refine lv_if_ne (tgt := 12) hx hb dX11_readAll_7 (by decide) (fun h47 => ?_) (fun h47 => ?_)
  · replace hF := hF.1 h47
    refine lv_aload_n hx hb dX11_readAll_12 rfl (lv_at hl 0 rfl) ?_
    refine lv_aload_n hx hb dX11_readAll_13 rfl (lv_at hl 0 rfl) ?_
    refine sm_vi (As := []) (rest := [.ref (α.1 0)]) hP hK hD hE hS hA ⟨hx, hb, hml, hown, hts⟩ hl.1 (c_X11_last l D H.size t0 σ45 α _ hF) (cwV 0 hts wg_X11_readAll_X11_last_98 rfl rfl rfl (by decide +kernel) ⟨Nat.le_of_ble_eq_true rfl, Nat.le_of_ble_eq_true rfl⟩) (va_recv hK hP (ci := 11) (q0 := 0) rfl (sm_gX11 σ45 α)) rfl rfl (Nat.le_of_ble_eq_true rfl) dX11_readAll_14 ⟨Nat.zero_le _, Nat.zero_le _⟩ (fun r49 σ48 H locs hF hP hS => ?_)
    refine va_put (D := D) (ci := 11) (v := .int r49) (ty := .int) (C := RX11) (T := TX11) (N := 28) hx hb hts in_X11 tyX11 tyX11_ok nmX11 hown hK hP (hD.to (sm_wM_m _ _)) hS 0 (sm_gX11 σ48 α) rfl 8 (by decide) k_8 (fun _ h9 => h9) rfl (by decide +kernel) rfl rfl (Nat.le_of_ble_eq_true rfl) dX11_readAll_17 (fun H locs hP _ hS => ?_)
    rw [sm_iM5] at hP
    obtain ⟨σ50, eσ50⟩ : ∃ x : sm_S, x = sm_i σ48 5 r49 := ⟨_, rfl⟩
    replace hF := hF σ50 eσ50
    rw [← eσ50] at hP
    refine lv_iconst (v := 0) hx hb dX11_readAll_20 (by decide) ?_
    refine lv_istore_n (lv' := [(1, .int 0), (0, .ref (α.1 0))]) hx hb dX11_readAll_21 rfl hl (by decide) rfl (fun ls hl => ?_)
    obtain ⟨n22, hF⟩ := hF
    exact B22 n22 σ50 0 hF H locs ls hP hS (lv_sub hl [1, 0] rfl)
  · replace hF := hF.2 h47
    refine lv_iconst (v := 0) hx hb dX11_readAll_10 (by decide) ?_
    exact W.zret (v := 0) hx hb hr sm_z0.1 (fun t ht hW => ⟨⟨0, σ45, rfl, hF, (by unfold sm_B; rw [ht]; exact hP)⟩, hS.F ht⟩) hS.2.2 dX11_readAll_11
theorem dX11_note_0 : decode cX11_note 0 = .ok (.aload_n 0, 1) := by decide +kernel
theorem dX11_note_1 : decode cX11_note 1 = .ok (.iload_n 2, 1) := by decide +kernel
theorem dX11_note_2 : decode cX11_note 2 = .ok (.ifCond .ne 22, 3) := by decide +kernel
theorem dX11_note_5 : decode cX11_note 5 = .ok (.aload_n 0, 1) := by decide +kernel
theorem dX11_note_6 : decode cX11_note 6 = .ok (.getfield 74, 3) := by decide +kernel
theorem dX11_note_9 : decode cX11_note 9 = .ok (.ifCond .lt 11, 3) := by decide +kernel
theorem dX11_note_12 : decode cX11_note 12 = .ok (.iload_n 1, 1) := by decide +kernel
theorem dX11_note_13 : decode cX11_note 13 = .ok (.aload_n 0, 1) := by decide +kernel
theorem dX11_note_14 : decode cX11_note 14 = .ok (.getfield 74, 3) := by decide +kernel
theorem dX11_note_17 : decode cX11_note 17 = .ok (.if_icmp .ge 7, 3) := by decide +kernel
theorem dX11_note_20 : decode cX11_note 20 = .ok (.iload_n 1, 1) := by decide +kernel
theorem dX11_note_21 : decode cX11_note 21 = .ok (.goto 7, 3) := by decide +kernel
theorem dX11_note_24 : decode cX11_note 24 = .ok (.aload_n 0, 1) := by decide +kernel
theorem dX11_note_25 : decode cX11_note 25 = .ok (.getfield 74, 3) := by decide +kernel
theorem dX11_note_28 : decode cX11_note 28 = .ok (.putfield 74, 3) := by decide +kernel
theorem dX11_note_31 : decode cX11_note 31 = .ok (.return_, 1) := by decide +kernel
def wp_X11_note : List Cond := .code yX11_note cX11_note 3 none :: ([.fieldLink RX11 74 "SteadyMachineModel$Image" "wrong" "I"] ++ wsX110)
theorem wq_X11_note : wp_X11_note.all goodWord = true := wa_c rfl (wa_a (by decide +kernel) uq_X11)
theorem wt_X11_note : GoodIn lw_tbl wp_X11_note := wm_c (List.mem_of_getElem? (i := 1266) (by decide +kernel)) rfl (wm_a (goodIn_r _ [1389] (by decide +kernel) (by decide +kernel)) ut_X11)
theorem wi_X11_note_X11 : ∀ w ∈ wsX110, w ∈ wp_X11_note := fun w h => List.mem_cons_of_mem _ (List.mem_append_right _ h)
set_option maxHeartbeats 4000000 in
set_option maxRecDepth 100000 in
theorem c_X11_note (l : Launch) (D : va_G) (sz t0 : Nat) (σ : sm_S) (α : sm_A) (p1 : Int32) (p2 : Int32) (K : sm_S → Prop) (hF : mp_X11_note σ p1 p2 K) : Met l yX11_note wp_X11_note { frames := 0, cells := 0, slots := 0, locals := 0 } (sm_P sm_wM sm_tM 40 D sz t0 σ α [.ref (α.1 0), .int p1, .int p2]) (va_Qv K (sm_B sm_wM D α) (sm_a α 40 sz)) 0 0 (sm_a α 40 sz) := by
  refine Met.ofW (cc := cX11_note) (maxL := 3) (ret := none) (by decide) rfl ?_
  intro p e s m args below meth c s₁ B hml hv
  obtain ⟨rfl, hsz, hP, hK, hD0, hE⟩ := hv
  have hx := B.exec
  have hb := B.bytes
  have hr := B.returns
  have hts := atoms_spec (ws := wp_X11_note) B.pre
  have hown : s.vm.findClass RX11 = some m.cls := findClass_of_methodNamed B.named
  have hlocks := B.notSynchronized
  subst hsz
  have hD : sm_D (sm_a α 40 s.heap.size) α 40 := hD0.own
  have hA : ∀ q : Nat, s.heap.size ≤ q → sm_a α 40 s.heap.size q := fun q h => Or.inr h
  generalize hAe : sm_a α 40 s.heap.size = A at hD hA hE ⊢
  have hS : va_S A s.heap s.heap [] := va_S.rf
  have in_X11 : ∀ w ∈ wsX110, w ∈ wp_X11_note := wi_X11_note_X11
  have k_0 := hts (.fieldLink RX11 74 "SteadyMachineModel$Image" "wrong" "I") (by decide +kernel)
  have hl := lv_entry ([.ref (α.1 0), .int p1, .int p2]) (n := 3) (Nat.le_of_ble_eq_true rfl)
  rw [lg_entry_eq]
  generalize (lg_sl ([.ref (α.1 0), .int p1, .int p2]) ++ List.replicate (3 - (lg_sl ([.ref (α.1 0), .int p1, .int p2])).length) Slot.unset).toArray = ls at hl ⊢
  have hl : lv_has ls 3 [(0, .ref (α.1 0)), (1, .int p1), (2, .int p2)] := hl
  have B28 : ∀ (σ : sm_S) (y1 : Int32), mp_X11_note_28 K σ y1 → sm_J p l e (headSpec wp_X11_note { frames := 0, cells := 0, slots := 0, locals := 0 }).room s m ([.ref (α.1 0), .int p1, .int p2] : List Value).toArray below meth c (MQ below (va_Qv K (sm_B sm_wM D α) A) ([.ref (α.1 0), .int p1, .int p2] : List Value).toArray s 0 0 A) D A 3 (sm_wM σ α) 28 [] [.int y1, .ref (α.1 0)] := by
    intro σ y1 hF H locs ls hP hS hl
    unfold mp_X11_note_28 at hF
    refine va_put (D := D) (ci := 11) (v := .int y1) (ty := .int) (C := RX11) (T := TX11) (N := 28) hx hb hts in_X11 tyX11 tyX11_ok nmX11 hown hK hP (hD.to (sm_wM_m _ _)) hS 0 (sm_gX11 σ α) rfl 6 (by decide) k_0 (fun _ h9 => h9) rfl (by decide +kernel) rfl rfl (Nat.le_of_ble_eq_true rfl) dX11_note_28 (fun H locs hP _ hS => ?_)
    rw [sm_iM3] at hP
    obtain ⟨σ1, eσ1⟩ : ∃ x : sm_S, x = sm_i σ 3 y1 := ⟨_, rfl⟩
    replace hF := hF σ1 eσ1
    rw [← eσ1] at hP
    exact W.vret hx hb hr (fun t ht hW => ⟨⟨σ1, rfl, hF, (by unfold sm_B; rw [ht]; exact hP)⟩, hS.F ht⟩) hS.2.2 dX11_note_31
  have B24 : ∀ (σ : sm_S), mp_X11_note_24 K σ → sm_J p l e (headSpec wp_X11_note { frames := 0, cells := 0, slots := 0, locals := 0 }).room s m ([.ref (α.1 0), .int p1, .int p2] : List Value).toArray below meth c (MQ below (va_Qv K (sm_B sm_wM D α) A) ([.ref (α.1 0), .int p1, .int p2] : List Value).toArray s 0 0 A) D A 3 (sm_wM σ α) 24 [(0, .ref (α.1 0))] [.ref (α.1 0)] := by
    intro σ hF H locs ls hP hS hl
    unfold mp_X11_note_24 at hF
    refine lv_aload_n hx hb dX11_note_24 rfl (lv_at hl 0 rfl) ?_
    refine va_get (D := D) (ci := 11) (v := .int (σ.1 3)) (C := RX11) (T := TX11) (N := 28) hx hb hts in_X11 hown hK hP 0 (sm_gX11 σ α) rfl 6 (by decide) k_0 (fun _ h9 => h9) rfl dX11_note_25 ?_
    exact B28 σ (σ.1 3) hF H locs ls hP hS (lv_sub hl [] rfl)
  have B20 : ∀ (σ : sm_S) (x1 : Int32), mp_X11_note_20 K σ x1 → sm_J p l e (headSpec wp_X11_note { frames := 0, cells := 0, slots := 0, locals := 0 }).room s m ([.ref (α.1 0), .int p1, .int p2] : List Value).toArray below meth c (MQ below (va_Qv K (sm_B sm_wM D α) A) ([.ref (α.1 0), .int p1, .int p2] : List Value).toArray s 0 0 A) D A 3 (sm_wM σ α) 20 [(1, .int x1)] [.ref (α.1 0)] := by
    intro σ x1 hF H locs ls hP hS hl
    unfold mp_X11_note_20 at hF
    refine lv_iload_n hx hb dX11_note_20 rfl (lv_at hl 0 rfl) ?_
    refine lv_goto (tgt := 28) hx hb dX11_note_21 (by decide) ?_
    exact B28 σ x1 hF H locs ls hP hS (lv_sub hl [] rfl)
  unfold mp_X11_note at hF
  revert hP hS
  generalize hLo : ([] : List Loc) = locs
  suffices h9 : ∀ (H : Heap) (locs : List Loc), va_P D vwCl (sm_wM σ α) H → va_S A s.heap H locs → W p l e (headSpec wp_X11_note { frames := 0, cells := 0, slots := 0, locals := 0 }).room s m ([.ref (α.1 0), .int p1, .int p2] : List Value).toArray below meth c H locs 0 0 (MQ below (va_Qv K (sm_B sm_wM D α) A) ([.ref (α.1 0), .int p1, .int p2] : List Value).toArray s 0 0 A) (F0 m 0 ls []) from fun hP hS => h9 s.heap locs hP hS
  intro H locs hP hS
  refine lv_aload_n hx hb dX11_note_0 rfl (lv_at hl 0 rfl) ?_
  refine lv_iload_n hx hb dX11_note_1 rfl (lv_at hl 2 rfl) ?_
  refine lv_if_ne (tgt := 24) hx hb dX11_note_2 (by decide) (fun h2 => ?_) (fun h2 => ?_)
  · replace hF := hF.1 h2
    exact B24 σ hF H locs ls hP hS (lv_sub hl [0] rfl)
  · replace hF := hF.2 h2
    refine lv_aload_n hx hb dX11_note_5 rfl (lv_at hl 0 rfl) ?_
    refine va_get (D := D) (ci := 11) (v := .int (σ.1 3)) (C := RX11) (T := TX11) (N := 28) hx hb hts in_X11 hown hK hP 0 (sm_gX11 σ α) rfl 6 (by decide) k_0 (fun _ h9 => h9) rfl dX11_note_6 ?_
    refine lv_if_lt (tgt := 20) hx hb dX11_note_9 (by decide) (fun h3 => ?_) (fun h3 => ?_)
    · replace hF := hF.1 h3
      exact B20 σ p1 hF H locs ls hP hS (lv_sub hl [1] rfl)
    · replace hF := hF.2 h3
      refine lv_iload_n hx hb dX11_note_12 rfl (lv_at hl 1 rfl) ?_
      refine lv_aload_n hx hb dX11_note_13 rfl (lv_at hl 0 rfl) ?_
      refine va_get (D := D) (ci := 11) (v := .int (σ.1 3)) (C := RX11) (T := TX11) (N := 28) hx hb hts in_X11 hown hK hP 0 (sm_gX11 σ α) rfl 6 (by decide) k_0 (fun _ h9 => h9) rfl dX11_note_14 ?_
      refine lv_icmp_ge (tgt := 24) hx hb dX11_note_17 (by decide) (fun h4 => ?_) (fun h4 => ?_)
      · replace hF := hF.1 h4
        exact B24 σ hF H locs ls hP hS (lv_sub hl [0] rfl)
      · replace hF := hF.2 h4
        exact B20 σ p1 hF H locs ls hP hS (lv_sub hl [1] rfl)
theorem dX11_isBegin_0 : decode cX11_isBegin 0 = .ok (.iload_n 2, 1) := by decide +kernel
theorem dX11_isBegin_1 : decode cX11_isBegin 1 = .ok (.aload_n 0, 1) := by decide +kernel
theorem dX11_isBegin_2 : decode cX11_isBegin 2 = .ok (.getfield 61, 3) := by decide +kernel
theorem dX11_isBegin_5 : decode cX11_isBegin 5 = .ok (.iload_n 1, 1) := by decide +kernel
theorem dX11_isBegin_6 : decode cX11_isBegin 6 = .ok (.iaload, 1) := by decide +kernel
theorem dX11_isBegin_7 : decode cX11_isBegin 7 = .ok (.if_icmp .ge 23, 3) := by decide +kernel
theorem dX11_isBegin_10 : decode cX11_isBegin 10 = .ok (.aload_n 0, 1) := by decide +kernel
theorem dX11_isBegin_11 : decode cX11_isBegin 11 = .ok (.getfield 18, 3) := by decide +kernel
theorem dX11_isBegin_14 : decode cX11_isBegin 14 = .ok (.aload_n 0, 1) := by decide +kernel
theorem dX11_isBegin_15 : decode cX11_isBegin 15 = .ok (.getfield 58, 3) := by decide +kernel
theorem dX11_isBegin_18 : decode cX11_isBegin 18 = .ok (.iload_n 1, 1) := by decide +kernel
theorem dX11_isBegin_19 : decode cX11_isBegin 19 = .ok (.iaload, 1) := by decide +kernel
theorem dX11_isBegin_20 : decode cX11_isBegin 20 = .ok (.iload_n 2, 1) := by decide +kernel
theorem dX11_isBegin_21 : decode cX11_isBegin 21 = .ok (.iadd, 1) := by decide +kernel
theorem dX11_isBegin_22 : decode cX11_isBegin 22 = .ok (.baload, 1) := by decide +kernel
theorem dX11_isBegin_23 : decode cX11_isBegin 23 = .ok (.ifCond .eq 7, 3) := by decide +kernel
theorem dX11_isBegin_26 : decode cX11_isBegin 26 = .ok (.iconst 1, 1) := by decide +kernel
theorem dX11_isBegin_27 : decode cX11_isBegin 27 = .ok (.goto 4, 3) := by decide +kernel
theorem dX11_isBegin_30 : decode cX11_isBegin 30 = .ok (.iconst 0, 1) := by decide +kernel
theorem dX11_isBegin_31 : decode cX11_isBegin 31 = .ok (.ireturn, 1) := by decide +kernel
def wp_X11_isBegin : List Cond := .code yX11_isBegin cX11_isBegin 3 (some .boolean) :: ([.fieldLink RX11 61 "SteadyMachineModel$Image" "codeSizes" "[I", .fieldLink RX11 18 "SteadyMachineModel$Image" "begins" "[Z", .fieldLink RX11 58 "SteadyMachineModel$Image" "codeAt" "[I"] ++ wsX110)
theorem wq_X11_isBegin : wp_X11_isBegin.all goodWord = true := wa_c rfl (wa_a (by decide +kernel) uq_X11)
theorem wt_X11_isBegin : GoodIn lw_tbl wp_X11_isBegin := wm_c (List.mem_of_getElem? (i := 1274) (by decide +kernel)) rfl (wm_a (goodIn_r _ [1420, 1386, 1418] (by decide +kernel) (by decide +kernel)) ut_X11)
theorem wi_X11_isBegin_X11 : ∀ w ∈ wsX110, w ∈ wp_X11_isBegin := fun w h => List.mem_cons_of_mem _ (List.mem_append_right _ h)
set_option maxHeartbeats 4000000 in
set_option maxRecDepth 100000 in
theorem c_X11_isBegin (l : Launch) (D : va_G) (sz t0 : Nat) (σ : sm_S) (α : sm_A) (p1 : Int32) (p2 : Int32) (K : Int32 → sm_S → Prop) (hF : mp_X11_isBegin σ p1 p2 K) : Met l yX11_isBegin wp_X11_isBegin { frames := 0, cells := 0, slots := 0, locals := 0 } (sm_P sm_wM sm_tM 40 D sz t0 σ α [.ref (α.1 0), .int p1, .int p2]) (va_Qi K (sm_B sm_wM D α) (sm_a α 40 sz)) 0 0 (sm_a α 40 sz) := by
  refine Met.ofW (cc := cX11_isBegin) (maxL := 3) (ret := (some .boolean)) (by decide) rfl ?_
  intro p e s m args below meth c s₁ B hml hv
  obtain ⟨rfl, hsz, hP, hK, hD0, hE⟩ := hv
  have hx := B.exec
  have hb := B.bytes
  have hr := B.returns
  have hts := atoms_spec (ws := wp_X11_isBegin) B.pre
  have hown : s.vm.findClass RX11 = some m.cls := findClass_of_methodNamed B.named
  have hlocks := B.notSynchronized
  subst hsz
  have hD : sm_D (sm_a α 40 s.heap.size) α 40 := hD0.own
  have hA : ∀ q : Nat, s.heap.size ≤ q → sm_a α 40 s.heap.size q := fun q h => Or.inr h
  generalize hAe : sm_a α 40 s.heap.size = A at hD hA hE ⊢
  have hS : va_S A s.heap s.heap [] := va_S.rf
  have in_X11 : ∀ w ∈ wsX110, w ∈ wp_X11_isBegin := wi_X11_isBegin_X11
  have k_0 := hts (.fieldLink RX11 61 "SteadyMachineModel$Image" "codeSizes" "[I") (by decide +kernel)
  have k_1 := hts (.fieldLink RX11 18 "SteadyMachineModel$Image" "begins" "[Z") (by decide +kernel)
  have k_2 := hts (.fieldLink RX11 58 "SteadyMachineModel$Image" "codeAt" "[I") (by decide +kernel)
  have hl := lv_entry ([.ref (α.1 0), .int p1, .int p2]) (n := 3) (Nat.le_of_ble_eq_true rfl)
  rw [lg_entry_eq]
  generalize (lg_sl ([.ref (α.1 0), .int p1, .int p2]) ++ List.replicate (3 - (lg_sl ([.ref (α.1 0), .int p1, .int p2])).length) Slot.unset).toArray = ls at hl ⊢
  have hl : lv_has ls 3 [(0, .ref (α.1 0)), (1, .int p1), (2, .int p2)] := hl
  have B31 : ∀ (σ : sm_S) (y0 : Int32), mp_X11_isBegin_31 K σ y0 → sm_J p l e (headSpec wp_X11_isBegin { frames := 0, cells := 0, slots := 0, locals := 0 }).room s m ([.ref (α.1 0), .int p1, .int p2] : List Value).toArray below meth c (MQ below (va_Qi K (sm_B sm_wM D α) A) ([.ref (α.1 0), .int p1, .int p2] : List Value).toArray s 0 0 A) D A 3 (sm_wM σ α) 31 [] [.int y0] := by
    intro σ y0 hF H locs ls hP hS hl
    unfold mp_X11_isBegin_31 at hF
    obtain ⟨h1, hF⟩ := hF
    exact W.zret (v := y0) hx hb hr h1.1 (fun t ht hW => ⟨⟨y0, σ, rfl, hF, (by unfold sm_B; rw [ht]; exact hP)⟩, hS.F ht⟩) hS.2.2 dX11_isBegin_31
  have B30 : ∀ (σ : sm_S), mp_X11_isBegin_30 K σ → sm_J p l e (headSpec wp_X11_isBegin { frames := 0, cells := 0, slots := 0, locals := 0 }).room s m ([.ref (α.1 0), .int p1, .int p2] : List Value).toArray below meth c (MQ below (va_Qi K (sm_B sm_wM D α) A) ([.ref (α.1 0), .int p1, .int p2] : List Value).toArray s 0 0 A) D A 3 (sm_wM σ α) 30 [] [] := by
    intro σ hF H locs ls hP hS hl
    unfold mp_X11_isBegin_30 at hF
    refine lv_iconst (v := 0) hx hb dX11_isBegin_30 (by decide) ?_
    exact B31 σ 0 hF H locs ls hP hS (lv_sub hl [] rfl)
  unfold mp_X11_isBegin at hF
  revert hP hS
  generalize hLo : ([] : List Loc) = locs
  suffices h9 : ∀ (H : Heap) (locs : List Loc), va_P D vwCl (sm_wM σ α) H → va_S A s.heap H locs → W p l e (headSpec wp_X11_isBegin { frames := 0, cells := 0, slots := 0, locals := 0 }).room s m ([.ref (α.1 0), .int p1, .int p2] : List Value).toArray below meth c H locs 0 0 (MQ below (va_Qi K (sm_B sm_wM D α) A) ([.ref (α.1 0), .int p1, .int p2] : List Value).toArray s 0 0 A) (F0 m 0 ls []) from fun hP hS => h9 s.heap locs hP hS
  intro H locs hP hS
  refine lv_iload_n hx hb dX11_isBegin_0 rfl (lv_at hl 2 rfl) ?_
  refine lv_aload_n hx hb dX11_isBegin_1 rfl (lv_at hl 0 rfl) ?_
  refine va_get (D := D) (ci := 11) (v := .ref (α.1 18)) (C := RX11) (T := TX11) (N := 28) hx hb hts in_X11 hown hK hP 0 (sm_gX11 σ α) rfl 23 (by decide) k_0 (fun _ h9 => h9) rfl dX11_isBegin_2 ?_
  refine lv_iload_n hx hb dX11_isBegin_5 rfl (lv_at hl 1 rfl) ?_
  obtain ⟨h2, hF⟩ := hF
  refine va_iald (n := (σ.2.2.1 18)) (f := (σ.2.2.2.1 18)) hx hb hK hP 18 16 (sm_aM18 σ α) (sm_yM18 α) h2 dX11_isBegin_6 ?_
  refine lv_icmp_ge (tgt := 30) hx hb dX11_isBegin_7 (by decide) (fun h3 => ?_) (fun h3 => ?_)
  · replace hF := hF.1 h3
    exact B30 σ hF H locs ls hP hS (lv_sub hl [] rfl)
  · replace hF := hF.2 h3
    refine lv_aload_n hx hb dX11_isBegin_10 rfl (lv_at hl 0 rfl) ?_
    refine va_get (D := D) (ci := 11) (v := .ref (α.1 4)) (C := RX11) (T := TX11) (N := 28) hx hb hts in_X11 hown hK hP 0 (sm_gX11 σ α) rfl 3 (by decide) k_1 (fun _ h9 => h9) rfl dX11_isBegin_11 ?_
    refine lv_aload_n hx hb dX11_isBegin_14 rfl (lv_at hl 0 rfl) ?_
    refine va_get (D := D) (ci := 11) (v := .ref (α.1 17)) (C := RX11) (T := TX11) (N := 28) hx hb hts in_X11 hown hK hP 0 (sm_gX11 σ α) rfl 22 (by decide) k_2 (fun _ h9 => h9) rfl dX11_isBegin_15 ?_
    refine lv_iload_n hx hb dX11_isBegin_18 rfl (lv_at hl 1 rfl) ?_
    obtain ⟨h4, hF⟩ := hF
    refine va_iald (n := (σ.2.2.1 17)) (f := (σ.2.2.2.1 17)) hx hb hK hP 17 15 (sm_aM17 σ α) (sm_yM17 α) h4 dX11_isBegin_19 ?_
    refine lv_iload_n hx hb dX11_isBegin_20 rfl (lv_at hl 2 rfl) ?_
    refine lv_iadd hx hb dX11_isBegin_21 ?_
    obtain ⟨h5, hF⟩ := hF
    refine va_zald (n := (σ.2.2.1 4)) (f := (σ.2.2.2.1 4)) hx hb hK hP 4 2 (sm_aM4 σ α) (sm_yM4 α) h5 dX11_isBegin_22 ?_
    refine lv_if_eq (tgt := 30) hx hb dX11_isBegin_23 (by decide) (fun h6 => ?_) (fun h6 => ?_)
    · replace hF := hF.1 h6
      exact B30 σ hF H locs ls hP hS (lv_sub hl [] rfl)
    · replace hF := hF.2 h6
      refine lv_iconst (v := 1) hx hb dX11_isBegin_26 (by decide) ?_
      refine lv_goto (tgt := 31) hx hb dX11_isBegin_27 (by decide) ?_
      exact B31 σ 1 hF H locs ls hP hS (lv_sub hl [] rfl)
theorem dX11_isLike_0 : decode cX11_isLike 0 = .ok (.aload_n 0, 1) := by decide +kernel
theorem dX11_isLike_1 : decode cX11_isLike 1 = .ok (.getfield 43, 3) := by decide +kernel
theorem dX11_isLike_4 : decode cX11_isLike 4 = .ok (.iload_n 1, 1) := by decide +kernel
theorem dX11_isLike_5 : decode cX11_isLike 5 = .ok (.iaload, 1) := by decide +kernel
theorem dX11_isLike_6 : decode cX11_isLike 6 = .ok (.aload_n 0, 1) := by decide +kernel
theorem dX11_isLike_7 : decode cX11_isLike 7 = .ok (.getfield 43, 3) := by decide +kernel
theorem dX11_isLike_10 : decode cX11_isLike 10 = .ok (.iload_n 2, 1) := by decide +kernel
theorem dX11_isLike_11 : decode cX11_isLike 11 = .ok (.iaload, 1) := by decide +kernel
theorem dX11_isLike_12 : decode cX11_isLike 12 = .ok (.if_icmp .ne 22, 3) := by decide +kernel
theorem dX11_isLike_15 : decode cX11_isLike 15 = .ok (.aload_n 0, 1) := by decide +kernel
theorem dX11_isLike_16 : decode cX11_isLike 16 = .ok (.getfield 49, 3) := by decide +kernel
theorem dX11_isLike_19 : decode cX11_isLike 19 = .ok (.iload_n 1, 1) := by decide +kernel
theorem dX11_isLike_20 : decode cX11_isLike 20 = .ok (.iaload, 1) := by decide +kernel
theorem dX11_isLike_21 : decode cX11_isLike 21 = .ok (.aload_n 0, 1) := by decide +kernel
theorem dX11_isLike_22 : decode cX11_isLike 22 = .ok (.getfield 49, 3) := by decide +kernel
theorem dX11_isLike_25 : decode cX11_isLike 25 = .ok (.iload_n 2, 1) := by decide +kernel
theorem dX11_isLike_26 : decode cX11_isLike 26 = .ok (.iaload, 1) := by decide +kernel
theorem dX11_isLike_27 : decode cX11_isLike 27 = .ok (.if_icmp .ne 7, 3) := by decide +kernel
theorem dX11_isLike_30 : decode cX11_isLike 30 = .ok (.iconst 1, 1) := by decide +kernel
theorem dX11_isLike_31 : decode cX11_isLike 31 = .ok (.goto 4, 3) := by decide +kernel
theorem dX11_isLike_34 : decode cX11_isLike 34 = .ok (.iconst 0, 1) := by decide +kernel
theorem dX11_isLike_35 : decode cX11_isLike 35 = .ok (.istore_n 3, 1) := by decide +kernel
theorem dX11_isLike_36 : decode cX11_isLike 36 = .ok (.iconst 1, 1) := by decide +kernel
theorem dX11_isLike_37 : decode cX11_isLike 37 = .ok (.istore 4, 2) := by decide +kernel
theorem dX11_isLike_39 : decode cX11_isLike 39 = .ok (.iload 4, 2) := by decide +kernel
theorem dX11_isLike_41 : decode cX11_isLike 41 = .ok (.aload_n 0, 1) := by decide +kernel
theorem dX11_isLike_42 : decode cX11_isLike 42 = .ok (.getfield 43, 3) := by decide +kernel
theorem dX11_isLike_45 : decode cX11_isLike 45 = .ok (.iload_n 1, 1) := by decide +kernel
theorem dX11_isLike_46 : decode cX11_isLike 46 = .ok (.iaload, 1) := by decide +kernel
theorem dX11_isLike_47 : decode cX11_isLike 47 = .ok (.if_icmp .ge 46, 3) := by decide +kernel
theorem dX11_isLike_50 : decode cX11_isLike 50 = .ok (.iload_n 3, 1) := by decide +kernel
theorem dX11_isLike_51 : decode cX11_isLike 51 = .ok (.ifCond .eq 42, 3) := by decide +kernel
theorem dX11_isLike_54 : decode cX11_isLike 54 = .ok (.aload_n 0, 1) := by decide +kernel
theorem dX11_isLike_55 : decode cX11_isLike 55 = .ok (.getfield 46, 3) := by decide +kernel
theorem dX11_isLike_58 : decode cX11_isLike 58 = .ok (.bipush 8, 2) := by decide +kernel
theorem dX11_isLike_60 : decode cX11_isLike 60 = .ok (.iload_n 1, 1) := by decide +kernel
theorem dX11_isLike_61 : decode cX11_isLike 61 = .ok (.imul, 1) := by decide +kernel
theorem dX11_isLike_62 : decode cX11_isLike 62 = .ok (.iload 4, 2) := by decide +kernel
theorem dX11_isLike_64 : decode cX11_isLike 64 = .ok (.iadd, 1) := by decide +kernel
theorem dX11_isLike_65 : decode cX11_isLike 65 = .ok (.iaload, 1) := by decide +kernel
theorem dX11_isLike_66 : decode cX11_isLike 66 = .ok (.aload_n 0, 1) := by decide +kernel
theorem dX11_isLike_67 : decode cX11_isLike 67 = .ok (.getfield 46, 3) := by decide +kernel
theorem dX11_isLike_70 : decode cX11_isLike 70 = .ok (.bipush 8, 2) := by decide +kernel
theorem dX11_isLike_72 : decode cX11_isLike 72 = .ok (.iload_n 2, 1) := by decide +kernel
theorem dX11_isLike_73 : decode cX11_isLike 73 = .ok (.imul, 1) := by decide +kernel
theorem dX11_isLike_74 : decode cX11_isLike 74 = .ok (.iload 4, 2) := by decide +kernel
theorem dX11_isLike_76 : decode cX11_isLike 76 = .ok (.iadd, 1) := by decide +kernel
theorem dX11_isLike_77 : decode cX11_isLike 77 = .ok (.iaload, 1) := by decide +kernel
theorem dX11_isLike_78 : decode cX11_isLike 78 = .ok (.if_icmp .ne 7, 3) := by decide +kernel
theorem dX11_isLike_81 : decode cX11_isLike 81 = .ok (.iconst 1, 1) := by decide +kernel
theorem dX11_isLike_82 : decode cX11_isLike 82 = .ok (.goto 4, 3) := by decide +kernel
theorem dX11_isLike_85 : decode cX11_isLike 85 = .ok (.iconst 0, 1) := by decide +kernel
theorem dX11_isLike_86 : decode cX11_isLike 86 = .ok (.istore_n 3, 1) := by decide +kernel
theorem dX11_isLike_87 : decode cX11_isLike 87 = .ok (.iinc 4 1, 3) := by decide +kernel
theorem dX11_isLike_90 : decode cX11_isLike 90 = .ok (.goto (-51), 3) := by decide +kernel
theorem dX11_isLike_93 : decode cX11_isLike 93 = .ok (.iload_n 3, 1) := by decide +kernel
theorem dX11_isLike_94 : decode cX11_isLike 94 = .ok (.ireturn, 1) := by decide +kernel
def wp_X11_isLike : List Cond := .code yX11_isLike cX11_isLike 5 (some .boolean) :: ([.fieldLink RX11 43 "SteadyMachineModel$Image" "parameterCounts" "[I", .fieldLink RX11 46 "SteadyMachineModel$Image" "parameterTypes" "[I", .fieldLink RX11 49 "SteadyMachineModel$Image" "gives" "[I"] ++ wsX110)
theorem wq_X11_isLike : wp_X11_isLike.all goodWord = true := wa_c rfl (wa_a (by decide +kernel) uq_X11)
theorem wt_X11_isLike : GoodIn lw_tbl wp_X11_isLike := wm_c (List.mem_of_getElem? (i := 1262) (by decide +kernel)) rfl (wm_a (goodIn_r _ [1408, 1410, 1412] (by decide +kernel) (by decide +kernel)) ut_X11)
theorem wi_X11_isLike_X11 : ∀ w ∈ wsX110, w ∈ wp_X11_isLike := fun w h => List.mem_cons_of_mem _ (List.mem_append_right _ h)
set_option maxHeartbeats 4000000 in
set_option maxRecDepth 100000 in
theorem c_X11_isLike (l : Launch) (D : va_G) (sz t0 : Nat) (σ : sm_S) (α : sm_A) (p1 : Int32) (p2 : Int32) (K : Int32 → sm_S → Prop) (hF : mp_X11_isLike σ p1 p2 K) : Met l yX11_isLike wp_X11_isLike { frames := 0, cells := 0, slots := 0, locals := 0 } (sm_P sm_wM sm_tM 40 D sz t0 σ α [.ref (α.1 0), .int p1, .int p2]) (va_Qi K (sm_B sm_wM D α) (sm_a α 40 sz)) 0 0 (sm_a α 40 sz) := by
  refine Met.ofW (cc := cX11_isLike) (maxL := 5) (ret := (some .boolean)) (by decide) rfl ?_
  intro p e s m args below meth c s₁ B hml hv
  obtain ⟨rfl, hsz, hP, hK, hD0, hE⟩ := hv
  have hx := B.exec
  have hb := B.bytes
  have hr := B.returns
  have hts := atoms_spec (ws := wp_X11_isLike) B.pre
  have hown : s.vm.findClass RX11 = some m.cls := findClass_of_methodNamed B.named
  have hlocks := B.notSynchronized
  subst hsz
  have hD : sm_D (sm_a α 40 s.heap.size) α 40 := hD0.own
  have hA : ∀ q : Nat, s.heap.size ≤ q → sm_a α 40 s.heap.size q := fun q h => Or.inr h
  generalize hAe : sm_a α 40 s.heap.size = A at hD hA hE ⊢
  have hS : va_S A s.heap s.heap [] := va_S.rf
  have in_X11 : ∀ w ∈ wsX110, w ∈ wp_X11_isLike := wi_X11_isLike_X11
  have k_0 := hts (.fieldLink RX11 43 "SteadyMachineModel$Image" "parameterCounts" "[I") (by decide +kernel)
  have k_1 := hts (.fieldLink RX11 46 "SteadyMachineModel$Image" "parameterTypes" "[I") (by decide +kernel)
  have k_2 := hts (.fieldLink RX11 49 "SteadyMachineModel$Image" "gives" "[I") (by decide +kernel)
  have hl := lv_entry ([.ref (α.1 0), .int p1, .int p2]) (n := 5) (Nat.le_of_ble_eq_true rfl)
  rw [lg_entry_eq]
  generalize (lg_sl ([.ref (α.1 0), .int p1, .int p2]) ++ List.replicate (5 - (lg_sl ([.ref (α.1 0), .int p1, .int p2])).length) Slot.unset).toArray = ls at hl ⊢
  have hl : lv_has ls 5 [(0, .ref (α.1 0)), (1, .int p1), (2, .int p2)] := hl
  have B93 : ∀ (σ : sm_S) (x3 : Int32), mp_X11_isLike_93 K σ x3 → sm_J p l e (headSpec wp_X11_isLike { frames := 0, cells := 0, slots := 0, locals := 0 }).room s m ([.ref (α.1 0), .int p1, .int p2] : List Value).toArray below meth c (MQ below (va_Qi K (sm_B sm_wM D α) A) ([.ref (α.1 0), .int p1, .int p2] : List Value).toArray s 0 0 A) D A 5 (sm_wM σ α) 93 [(3, .int x3)] [] := by
    intro σ x3 hF H locs ls hP hS hl
    unfold mp_X11_isLike_93 at hF
    refine lv_iload_n hx hb dX11_isLike_93 rfl (lv_at hl 0 rfl) ?_
    obtain ⟨h1, hF⟩ := hF
    exact W.zret (v := x3) hx hb hr h1.1 (fun t ht hW => ⟨⟨x3, σ, rfl, hF, (by unfold sm_B; rw [ht]; exact hP)⟩, hS.F ht⟩) hS.2.2 dX11_isLike_94
  have B86 : ∀ (L39 : sm_S → Int32 → Int32 → Int32 → Int32 → Prop) (hL39 : ∀ (σ : sm_S) (x1 : Int32) (x2 : Int32) (x3 : Int32) (x4 : Int32), L39 σ x1 x2 x3 x4 → sm_J p l e (headSpec wp_X11_isLike { frames := 0, cells := 0, slots := 0, locals := 0 }).room s m ([.ref (α.1 0), .int p1, .int p2] : List Value).toArray below meth c (MQ below (va_Qi K (sm_B sm_wM D α) A) ([.ref (α.1 0), .int p1, .int p2] : List Value).toArray s 0 0 A) D A 5 (sm_wM σ α) 39 [(0, .ref (α.1 0)), (1, .int x1), (2, .int x2), (3, .int x3), (4, .int x4)] []) (σ : sm_S) (x1 : Int32) (x2 : Int32) (x4 : Int32) (y0 : Int32), mp_X11_isLike_86 L39 K σ x1 x2 x4 y0 → sm_J p l e (headSpec wp_X11_isLike { frames := 0, cells := 0, slots := 0, locals := 0 }).room s m ([.ref (α.1 0), .int p1, .int p2] : List Value).toArray below meth c (MQ below (va_Qi K (sm_B sm_wM D α) A) ([.ref (α.1 0), .int p1, .int p2] : List Value).toArray s 0 0 A) D A 5 (sm_wM σ α) 86 [(0, .ref (α.1 0)), (1, .int x1), (2, .int x2), (4, .int x4)] [.int y0] := by
    intro L39 hL39 σ x1 x2 x4 y0 hF H locs ls hP hS hl
    unfold mp_X11_isLike_86 at hF
    refine lv_istore_n (lv' := [(3, .int y0), (0, .ref (α.1 0)), (1, .int x1), (2, .int x2), (4, .int x4)]) hx hb dX11_isLike_86 rfl hl (by decide) rfl (fun ls hl => ?_)
    obtain ⟨v2, ev2⟩ : ∃ y : Int32, y = x4 + 1 := ⟨_, rfl⟩
    replace hF := hF v2 ev2
    refine lv_iinc (v := v2) (lv' := [(4, .int v2), (3, .int y0), (0, .ref (α.1 0)), (1, .int x1), (2, .int x2)]) hx hb dX11_isLike_87 hl (k := 4) rfl (by rw [ev2]; rfl) (by decide) rfl (fun ls hl => ?_)
    refine lv_goto (tgt := 39) hx hb dX11_isLike_90 (by decide) ?_
    exact hL39 σ x1 x2 y0 v2 hF H locs ls hP hS (lv_sub hl [2, 3, 4, 1, 0] rfl)
  have B39 : ∀ (n : Nat) (σ : sm_S) (x1 : Int32) (x2 : Int32) (x3 : Int32) (x4 : Int32), mp_X11_isLike_39 K n σ x1 x2 x3 x4 → sm_J p l e (headSpec wp_X11_isLike { frames := 0, cells := 0, slots := 0, locals := 0 }).room s m ([.ref (α.1 0), .int p1, .int p2] : List Value).toArray below meth c (MQ below (va_Qi K (sm_B sm_wM D α) A) ([.ref (α.1 0), .int p1, .int p2] : List Value).toArray s 0 0 A) D A 5 (sm_wM σ α) 39 [(0, .ref (α.1 0)), (1, .int x1), (2, .int x2), (3, .int x3), (4, .int x4)] [] := by
    intro n39
    induction n39 with
    | zero =>
      intro σ x1 x2 x3 x4 hF
      exact hF.elim
    | succ n39 ih39 =>
      intro σ x1 x2 x3 x4 hF H locs ls hP hS hl
      unfold mp_X11_isLike_39 at hF
      refine lv_iload hx hb dX11_isLike_39 (lv_at hl 4 rfl) ?_
      refine lv_aload_n hx hb dX11_isLike_41 rfl (lv_at hl 0 rfl) ?_
      refine va_get (D := D) (ci := 11) (v := .ref (α.1 12)) (C := RX11) (T := TX11) (N := 28) hx hb hts in_X11 hown hK hP 0 (sm_gX11 σ α) rfl 17 (by decide) k_0 (fun _ h9 => h9) rfl dX11_isLike_42 ?_
      refine lv_iload_n hx hb dX11_isLike_45 rfl (lv_at hl 1 rfl) ?_
      obtain ⟨h3, hF⟩ := hF
      refine va_iald (n := (σ.2.2.1 12)) (f := (σ.2.2.2.1 12)) hx hb hK hP 12 10 (sm_aM12 σ α) (sm_yM12 α) h3 dX11_isLike_46 ?_
      refine lv_icmp_ge (tgt := 93) hx hb dX11_isLike_47 (by decide) (fun h4 => ?_) (fun h4 => ?_)
      · replace hF := hF.1 h4
        exact B93 σ x3 hF H locs ls hP hS (lv_sub hl [3] rfl)
      · replace hF := hF.2 h4
        refine lv_iload_n hx hb dX11_isLike_50 rfl (lv_at hl 3 rfl) ?_
        refine lv_if_eq (tgt := 93) hx hb dX11_isLike_51 (by decide) (fun h5 => ?_) (fun h5 => ?_)
        · replace hF := hF.1 h5
          exact B93 σ x3 hF H locs ls hP hS (lv_sub hl [3] rfl)
        · replace hF := hF.2 h5
          refine lv_aload_n hx hb dX11_isLike_54 rfl (lv_at hl 0 rfl) ?_
          refine va_get (D := D) (ci := 11) (v := .ref (α.1 13)) (C := RX11) (T := TX11) (N := 28) hx hb hts in_X11 hown hK hP 0 (sm_gX11 σ α) rfl 18 (by decide) k_1 (fun _ h9 => h9) rfl dX11_isLike_55 ?_
          refine lv_bipush (v := 8) hx hb dX11_isLike_58 (by decide) ?_
          refine lv_iload_n hx hb dX11_isLike_60 rfl (lv_at hl 1 rfl) ?_
          refine lv_imul hx hb dX11_isLike_61 ?_
          refine lv_iload hx hb dX11_isLike_62 (lv_at hl 4 rfl) ?_
          refine lv_iadd hx hb dX11_isLike_64 ?_
          obtain ⟨h6, hF⟩ := hF
          refine va_iald (n := (σ.2.2.1 13)) (f := (σ.2.2.2.1 13)) hx hb hK hP 13 11 (sm_aM13 σ α) (sm_yM13 α) h6 dX11_isLike_65 ?_
          refine lv_aload_n hx hb dX11_isLike_66 rfl (lv_at hl 0 rfl) ?_
          refine va_get (D := D) (ci := 11) (v := .ref (α.1 13)) (C := RX11) (T := TX11) (N := 28) hx hb hts in_X11 hown hK hP 0 (sm_gX11 σ α) rfl 18 (by decide) k_1 (fun _ h9 => h9) rfl dX11_isLike_67 ?_
          refine lv_bipush (v := 8) hx hb dX11_isLike_70 (by decide) ?_
          refine lv_iload_n hx hb dX11_isLike_72 rfl (lv_at hl 2 rfl) ?_
          refine lv_imul hx hb dX11_isLike_73 ?_
          refine lv_iload hx hb dX11_isLike_74 (lv_at hl 4 rfl) ?_
          refine lv_iadd hx hb dX11_isLike_76 ?_
          obtain ⟨h7, hF⟩ := hF
          refine va_iald (n := (σ.2.2.1 13)) (f := (σ.2.2.2.1 13)) hx hb hK hP 13 11 (sm_aM13 σ α) (sm_yM13 α) h7 dX11_isLike_77 ?_
          refine lv_icmp_ne (tgt := 85) hx hb dX11_isLike_78 (by decide) (fun h8 => ?_) (fun h8 => ?_)
          · replace hF := hF.1 h8
            refine lv_iconst (v := 0) hx hb dX11_isLike_85 (by decide) ?_
            exact B86 (mp_X11_isLike_39 K n39) ih39 σ x1 x2 x4 0 hF H locs ls hP hS (lv_sub hl [0, 1, 2, 4] rfl)
          · replace hF := hF.2 h8
            refine lv_iconst (v := 1) hx hb dX11_isLike_81 (by decide) ?_
            refine lv_goto (tgt := 86) hx hb dX11_isLike_82 (by decide) ?_
            exact B86 (mp_X11_isLike_39 K n39) ih39 σ x1 x2 x4 1 hF H locs ls hP hS (lv_sub hl [0, 1, 2, 4] rfl)
  have B35 : ∀ (σ : sm_S) (x1 : Int32) (x2 : Int32) (y0 : Int32), mp_X11_isLike_35 K σ x1 x2 y0 → sm_J p l e (headSpec wp_X11_isLike { frames := 0, cells := 0, slots := 0, locals := 0 }).room s m ([.ref (α.1 0), .int p1, .int p2] : List Value).toArray below meth c (MQ below (va_Qi K (sm_B sm_wM D α) A) ([.ref (α.1 0), .int p1, .int p2] : List Value).toArray s 0 0 A) D A 5 (sm_wM σ α) 35 [(0, .ref (α.1 0)), (1, .int x1), (2, .int x2)] [.int y0] := by
    intro σ x1 x2 y0 hF H locs ls hP hS hl
    unfold mp_X11_isLike_35 at hF
    refine lv_istore_n (lv' := [(3, .int y0), (0, .ref (α.1 0)), (1, .int x1), (2, .int x2)]) hx hb dX11_isLike_35 rfl hl (by decide) rfl (fun ls hl => ?_)
    refine lv_iconst (v := 1) hx hb dX11_isLike_36 (by decide) ?_
    refine lv_istore (lv' := [(4, .int 1), (3, .int y0), (0, .ref (α.1 0)), (1, .int x1), (2, .int x2)]) hx hb dX11_isLike_37 hl (by decide) rfl (fun ls hl => ?_)
    obtain ⟨n39, hF⟩ := hF
    exact B39 n39 σ x1 x2 y0 1 hF H locs ls hP hS (lv_sub hl [2, 3, 4, 1, 0] rfl)
  have B34 : ∀ (σ : sm_S) (x1 : Int32) (x2 : Int32), mp_X11_isLike_34 K σ x1 x2 → sm_J p l e (headSpec wp_X11_isLike { frames := 0, cells := 0, slots := 0, locals := 0 }).room s m ([.ref (α.1 0), .int p1, .int p2] : List Value).toArray below meth c (MQ below (va_Qi K (sm_B sm_wM D α) A) ([.ref (α.1 0), .int p1, .int p2] : List Value).toArray s 0 0 A) D A 5 (sm_wM σ α) 34 [(0, .ref (α.1 0)), (1, .int x1), (2, .int x2)] [] := by
    intro σ x1 x2 hF H locs ls hP hS hl
    unfold mp_X11_isLike_34 at hF
    refine lv_iconst (v := 0) hx hb dX11_isLike_34 (by decide) ?_
    exact B35 σ x1 x2 0 hF H locs ls hP hS (lv_sub hl [0, 1, 2] rfl)
  unfold mp_X11_isLike at hF
  revert hP hS
  generalize hLo : ([] : List Loc) = locs
  suffices h9 : ∀ (H : Heap) (locs : List Loc), va_P D vwCl (sm_wM σ α) H → va_S A s.heap H locs → W p l e (headSpec wp_X11_isLike { frames := 0, cells := 0, slots := 0, locals := 0 }).room s m ([.ref (α.1 0), .int p1, .int p2] : List Value).toArray below meth c H locs 0 0 (MQ below (va_Qi K (sm_B sm_wM D α) A) ([.ref (α.1 0), .int p1, .int p2] : List Value).toArray s 0 0 A) (F0 m 0 ls []) from fun hP hS => h9 s.heap locs hP hS
  intro H locs hP hS
  refine lv_aload_n hx hb dX11_isLike_0 rfl (lv_at hl 0 rfl) ?_
  refine va_get (D := D) (ci := 11) (v := .ref (α.1 12)) (C := RX11) (T := TX11) (N := 28) hx hb hts in_X11 hown hK hP 0 (sm_gX11 σ α) rfl 17 (by decide) k_0 (fun _ h9 => h9) rfl dX11_isLike_1 ?_
  refine lv_iload_n hx hb dX11_isLike_4 rfl (lv_at hl 1 rfl) ?_
  obtain ⟨h9, hF⟩ := hF
  refine va_iald (n := (σ.2.2.1 12)) (f := (σ.2.2.2.1 12)) hx hb hK hP 12 10 (sm_aM12 σ α) (sm_yM12 α) h9 dX11_isLike_5 ?_
  refine lv_aload_n hx hb dX11_isLike_6 rfl (lv_at hl 0 rfl) ?_
  refine va_get (D := D) (ci := 11) (v := .ref (α.1 12)) (C := RX11) (T := TX11) (N := 28) hx hb hts in_X11 hown hK hP 0 (sm_gX11 σ α) rfl 17 (by decide) k_0 (fun _ h9 => h9) rfl dX11_isLike_7 ?_
  refine lv_iload_n hx hb dX11_isLike_10 rfl (lv_at hl 2 rfl) ?_
  obtain ⟨h10, hF⟩ := hF
  refine va_iald (n := (σ.2.2.1 12)) (f := (σ.2.2.2.1 12)) hx hb hK hP 12 10 (sm_aM12 σ α) (sm_yM12 α) h10 dX11_isLike_11 ?_
  refine lv_icmp_ne (tgt := 34) hx hb dX11_isLike_12 (by decide) (fun h11 => ?_) (fun h11 => ?_)
  · replace hF := hF.1 h11
    exact B34 σ p1 p2 hF H locs ls hP hS (lv_sub hl [0, 1, 2] rfl)
  · replace hF := hF.2 h11
    refine lv_aload_n hx hb dX11_isLike_15 rfl (lv_at hl 0 rfl) ?_
    refine va_get (D := D) (ci := 11) (v := .ref (α.1 14)) (C := RX11) (T := TX11) (N := 28) hx hb hts in_X11 hown hK hP 0 (sm_gX11 σ α) rfl 19 (by decide) k_2 (fun _ h9 => h9) rfl dX11_isLike_16 ?_
    refine lv_iload_n hx hb dX11_isLike_19 rfl (lv_at hl 1 rfl) ?_
    obtain ⟨h12, hF⟩ := hF
    refine va_iald (n := (σ.2.2.1 14)) (f := (σ.2.2.2.1 14)) hx hb hK hP 14 12 (sm_aM14 σ α) (sm_yM14 α) h12 dX11_isLike_20 ?_
    refine lv_aload_n hx hb dX11_isLike_21 rfl (lv_at hl 0 rfl) ?_
    refine va_get (D := D) (ci := 11) (v := .ref (α.1 14)) (C := RX11) (T := TX11) (N := 28) hx hb hts in_X11 hown hK hP 0 (sm_gX11 σ α) rfl 19 (by decide) k_2 (fun _ h9 => h9) rfl dX11_isLike_22 ?_
    refine lv_iload_n hx hb dX11_isLike_25 rfl (lv_at hl 2 rfl) ?_
    obtain ⟨h13, hF⟩ := hF
    refine va_iald (n := (σ.2.2.1 14)) (f := (σ.2.2.2.1 14)) hx hb hK hP 14 12 (sm_aM14 σ α) (sm_yM14 α) h13 dX11_isLike_26 ?_
    refine lv_icmp_ne (tgt := 34) hx hb dX11_isLike_27 (by decide) (fun h14 => ?_) (fun h14 => ?_)
    · replace hF := hF.1 h14
      exact B34 σ p1 p2 hF H locs ls hP hS (lv_sub hl [0, 1, 2] rfl)
    · replace hF := hF.2 h14
      refine lv_iconst (v := 1) hx hb dX11_isLike_30 (by decide) ?_
      refine lv_goto (tgt := 35) hx hb dX11_isLike_31 (by decide) ?_
      exact B35 σ p1 p2 1 hF H locs ls hP hS (lv_sub hl [0, 1, 2] rfl)
theorem dX11_checkSlots_0 : decode cX11_checkSlots 0 = .ok (.iconst 0, 1) := by decide +kernel
theorem dX11_checkSlots_1 : decode cX11_checkSlots 1 = .ok (.istore_n 1, 1) := by decide +kernel
theorem dX11_checkSlots_2 : decode cX11_checkSlots 2 = .ok (.iload_n 1, 1) := by decide +kernel
theorem dX11_checkSlots_3 : decode cX11_checkSlots 3 = .ok (.bipush 16, 2) := by decide +kernel
theorem dX11_checkSlots_5 : decode cX11_checkSlots 5 = .ok (.aload_n 0, 1) := by decide +kernel
theorem dX11_checkSlots_6 : decode cX11_checkSlots 6 = .ok (.getfield 91, 3) := by decide +kernel
theorem dX11_checkSlots_9 : decode cX11_checkSlots 9 = .ok (.imul, 1) := by decide +kernel
theorem dX11_checkSlots_10 : decode cX11_checkSlots 10 = .ok (.if_icmp .ge 127, 3) := by decide +kernel
theorem dX11_checkSlots_13 : decode cX11_checkSlots 13 = .ok (.iload_n 1, 1) := by decide +kernel
theorem dX11_checkSlots_14 : decode cX11_checkSlots 14 = .ok (.bipush 16, 2) := by decide +kernel
theorem dX11_checkSlots_16 : decode cX11_checkSlots 16 = .ok (.idiv, 1) := by decide +kernel
theorem dX11_checkSlots_17 : decode cX11_checkSlots 17 = .ok (.istore_n 2, 1) := by decide +kernel
theorem dX11_checkSlots_18 : decode cX11_checkSlots 18 = .ok (.aload_n 0, 1) := by decide +kernel
theorem dX11_checkSlots_19 : decode cX11_checkSlots 19 = .ok (.getfield 31, 3) := by decide +kernel
theorem dX11_checkSlots_22 : decode cX11_checkSlots 22 = .ok (.iload_n 1, 1) := by decide +kernel
theorem dX11_checkSlots_23 : decode cX11_checkSlots 23 = .ok (.iaload, 1) := by decide +kernel
theorem dX11_checkSlots_24 : decode cX11_checkSlots 24 = .ok (.istore_n 3, 1) := by decide +kernel
theorem dX11_checkSlots_25 : decode cX11_checkSlots 25 = .ok (.aload_n 0, 1) := by decide +kernel
theorem dX11_checkSlots_26 : decode cX11_checkSlots 26 = .ok (.getfield 34, 3) := by decide +kernel
theorem dX11_checkSlots_29 : decode cX11_checkSlots 29 = .ok (.iload_n 1, 1) := by decide +kernel
theorem dX11_checkSlots_30 : decode cX11_checkSlots 30 = .ok (.iaload, 1) := by decide +kernel
theorem dX11_checkSlots_31 : decode cX11_checkSlots 31 = .ok (.iconst (-1), 1) := by decide +kernel
theorem dX11_checkSlots_32 : decode cX11_checkSlots 32 = .ok (.if_icmp .eq 99, 3) := by decide +kernel
theorem dX11_checkSlots_35 : decode cX11_checkSlots 35 = .ok (.aload_n 0, 1) := by decide +kernel
theorem dX11_checkSlots_36 : decode cX11_checkSlots 36 = .ok (.getfield 22, 3) := by decide +kernel
theorem dX11_checkSlots_39 : decode cX11_checkSlots 39 = .ok (.iload_n 2, 1) := by decide +kernel
theorem dX11_checkSlots_40 : decode cX11_checkSlots 40 = .ok (.iaload, 1) := by decide +kernel
theorem dX11_checkSlots_41 : decode cX11_checkSlots 41 = .ok (.ifCond .ge 7, 3) := by decide +kernel
theorem dX11_checkSlots_44 : decode cX11_checkSlots 44 = .ok (.iconst (-1), 1) := by decide +kernel
theorem dX11_checkSlots_45 : decode cX11_checkSlots 45 = .ok (.goto 22, 3) := by decide +kernel
theorem dX11_checkSlots_48 : decode cX11_checkSlots 48 = .ok (.aload_n 0, 1) := by decide +kernel
theorem dX11_checkSlots_49 : decode cX11_checkSlots 49 = .ok (.getfield 31, 3) := by decide +kernel
theorem dX11_checkSlots_52 : decode cX11_checkSlots 52 = .ok (.bipush 16, 2) := by decide +kernel
theorem dX11_checkSlots_54 : decode cX11_checkSlots 54 = .ok (.aload_n 0, 1) := by decide +kernel
theorem dX11_checkSlots_55 : decode cX11_checkSlots 55 = .ok (.getfield 22, 3) := by decide +kernel
theorem dX11_checkSlots_58 : decode cX11_checkSlots 58 = .ok (.iload_n 2, 1) := by decide +kernel
theorem dX11_checkSlots_59 : decode cX11_checkSlots 59 = .ok (.iaload, 1) := by decide +kernel
theorem dX11_checkSlots_60 : decode cX11_checkSlots 60 = .ok (.imul, 1) := by decide +kernel
theorem dX11_checkSlots_61 : decode cX11_checkSlots 61 = .ok (.iload_n 1, 1) := by decide +kernel
theorem dX11_checkSlots_62 : decode cX11_checkSlots 62 = .ok (.bipush 16, 2) := by decide +kernel
theorem dX11_checkSlots_64 : decode cX11_checkSlots 64 = .ok (.irem, 1) := by decide +kernel
theorem dX11_checkSlots_65 : decode cX11_checkSlots 65 = .ok (.iadd, 1) := by decide +kernel
theorem dX11_checkSlots_66 : decode cX11_checkSlots 66 = .ok (.iaload, 1) := by decide +kernel
theorem dX11_checkSlots_67 : decode cX11_checkSlots 67 = .ok (.istore 4, 2) := by decide +kernel
theorem dX11_checkSlots_69 : decode cX11_checkSlots 69 = .ok (.iload_n 3, 1) := by decide +kernel
theorem dX11_checkSlots_70 : decode cX11_checkSlots 70 = .ok (.aload_n 0, 1) := by decide +kernel
theorem dX11_checkSlots_71 : decode cX11_checkSlots 71 = .ok (.getfield 125, 3) := by decide +kernel
theorem dX11_checkSlots_74 : decode cX11_checkSlots 74 = .ok (.if_icmp .ge 42, 3) := by decide +kernel
theorem dX11_checkSlots_77 : decode cX11_checkSlots 77 = .ok (.aload_n 0, 1) := by decide +kernel
theorem dX11_checkSlots_78 : decode cX11_checkSlots 78 = .ok (.getfield 40, 3) := by decide +kernel
theorem dX11_checkSlots_81 : decode cX11_checkSlots 81 = .ok (.iload_n 3, 1) := by decide +kernel
theorem dX11_checkSlots_82 : decode cX11_checkSlots 82 = .ok (.iaload, 1) := by decide +kernel
theorem dX11_checkSlots_83 : decode cX11_checkSlots 83 = .ok (.iload_n 2, 1) := by decide +kernel
theorem dX11_checkSlots_84 : decode cX11_checkSlots 84 = .ok (.if_icmp .ne 32, 3) := by decide +kernel
theorem dX11_checkSlots_87 : decode cX11_checkSlots 87 = .ok (.iload 4, 2) := by decide +kernel
theorem dX11_checkSlots_89 : decode cX11_checkSlots 89 = .ok (.iconst (-1), 1) := by decide +kernel
theorem dX11_checkSlots_90 : decode cX11_checkSlots 90 = .ok (.if_icmp .eq 22, 3) := by decide +kernel
theorem dX11_checkSlots_93 : decode cX11_checkSlots 93 = .ok (.iload 4, 2) := by decide +kernel
theorem dX11_checkSlots_95 : decode cX11_checkSlots 95 = .ok (.aload_n 0, 1) := by decide +kernel
theorem dX11_checkSlots_96 : decode cX11_checkSlots 96 = .ok (.getfield 125, 3) := by decide +kernel
theorem dX11_checkSlots_99 : decode cX11_checkSlots 99 = .ok (.if_icmp .ge 13, 3) := by decide +kernel
theorem dX11_checkSlots_102 : decode cX11_checkSlots 102 = .ok (.aload_n 0, 1) := by decide +kernel
theorem dX11_checkSlots_103 : decode cX11_checkSlots 103 = .ok (.iload_n 3, 1) := by decide +kernel
theorem dX11_checkSlots_104 : decode cX11_checkSlots 104 = .ok (.iload 4, 2) := by decide +kernel
theorem dX11_checkSlots_106 : decode cX11_checkSlots 106 = .ok (.invokevirtual 134, 3) := by decide +kernel
theorem dX11_checkSlots_109 : decode cX11_checkSlots 109 = .ok (.ifCond .eq 7, 3) := by decide +kernel
theorem dX11_checkSlots_112 : decode cX11_checkSlots 112 = .ok (.iconst 1, 1) := by decide +kernel
theorem dX11_checkSlots_113 : decode cX11_checkSlots 113 = .ok (.goto 4, 3) := by decide +kernel
theorem dX11_checkSlots_116 : decode cX11_checkSlots 116 = .ok (.iconst 0, 1) := by decide +kernel
theorem dX11_checkSlots_117 : decode cX11_checkSlots 117 = .ok (.istore 5, 2) := by decide +kernel
theorem dX11_checkSlots_119 : decode cX11_checkSlots 119 = .ok (.aload_n 0, 1) := by decide +kernel
theorem dX11_checkSlots_120 : decode cX11_checkSlots 120 = .ok (.aload_n 0, 1) := by decide +kernel
theorem dX11_checkSlots_121 : decode cX11_checkSlots 121 = .ok (.getfield 34, 3) := by decide +kernel
theorem dX11_checkSlots_124 : decode cX11_checkSlots 124 = .ok (.iload_n 1, 1) := by decide +kernel
theorem dX11_checkSlots_125 : decode cX11_checkSlots 125 = .ok (.iaload, 1) := by decide +kernel
theorem dX11_checkSlots_126 : decode cX11_checkSlots 126 = .ok (.iload 5, 2) := by decide +kernel
theorem dX11_checkSlots_128 : decode cX11_checkSlots 128 = .ok (.invokevirtual 137, 3) := by decide +kernel
theorem dX11_checkSlots_131 : decode cX11_checkSlots 131 = .ok (.iinc 1 1, 3) := by decide +kernel
theorem dX11_checkSlots_134 : decode cX11_checkSlots 134 = .ok (.goto (-132), 3) := by decide +kernel
theorem dX11_checkSlots_137 : decode cX11_checkSlots 137 = .ok (.return_, 1) := by decide +kernel
def wp_X11_checkSlots : List Cond := .code yX11_checkSlots cX11_checkSlots 6 none :: ((([.fieldLink RX11 34 "SteadyMachineModel$Image" "slotPlaces" "[I", .fieldLink RX11 125 "SteadyMachineModel$Image" "methods" "I", .fieldLink RX11 40 "SteadyMachineModel$Image" "owners" "[I", .fieldLink RX11 91 "SteadyMachineModel$Image" "classes" "I", .fieldLink RX11 31 "SteadyMachineModel$Image" "slots" "[I", .fieldLink RX11 22 "SteadyMachineModel$Image" "uppers" "[I"] ++ (wsV RX11 137 RX11 yX11_note wp_X11_note)) ++ (wsV RX11 134 RX11 yX11_isLike wp_X11_isLike)) ++ wsX110)
theorem wq_X11_checkSlots : wp_X11_checkSlots.all goodWord = true := wa_c rfl (wa_a (wa_a (wa_a (by decide +kernel) (wa_V wq_X11_note)) (wa_V wq_X11_isLike)) uq_X11)
theorem wt_X11_checkSlots : GoodIn lw_tbl wp_X11_checkSlots := wm_c (List.mem_of_getElem? (i := 1258) (by decide +kernel)) rfl (wm_a (wm_a (wm_a (goodIn_r _ [1402, 1405, 1407, 1392, 1400, 1394] (by decide +kernel) (by decide +kernel)) (wm_a (goodIn_r _ [1263, 1265, 81, 148] (by decide +kernel) (by decide +kernel)) wt_X11_note)) (wm_a (goodIn_r _ [1259, 1261, 80, 148] (by decide +kernel) (by decide +kernel)) wt_X11_isLike)) ut_X11)
theorem wg_X11_checkSlots_X11_note_137 : GoodIn wp_X11_checkSlots (wsV RX11 137 RX11 yX11_note wp_X11_note) := goodIn_sub (fun w h => List.mem_cons_of_mem _ (List.mem_append_left _ (List.mem_append_left _ (List.mem_append_right _ h)))) (wa_V wq_X11_note)
theorem wg_X11_checkSlots_X11_isLike_134 : GoodIn wp_X11_checkSlots (wsV RX11 134 RX11 yX11_isLike wp_X11_isLike) := goodIn_sub (fun w h => List.mem_cons_of_mem _ (List.mem_append_left _ (List.mem_append_right _ h))) (wa_V wq_X11_isLike)
theorem wi_X11_checkSlots_X11 : ∀ w ∈ wsX110, w ∈ wp_X11_checkSlots := fun w h => List.mem_cons_of_mem _ (List.mem_append_right _ h)
set_option maxHeartbeats 4000000 in
set_option maxRecDepth 100000 in
theorem c_X11_checkSlots (l : Launch) (D : va_G) (sz t0 : Nat) (σ : sm_S) (α : sm_A) (K : sm_S → Prop) (hF : mp_X11_checkSlots σ K) : Met l yX11_checkSlots wp_X11_checkSlots { frames := 1, cells := 0, slots := 0, locals := 24 } (sm_P sm_wM sm_tM 40 D sz t0 σ α [.ref (α.1 0)]) (va_Qv K (sm_B sm_wM D α) (sm_a α 40 sz)) 0 0 (sm_a α 40 sz) := by
  refine Met.ofW (cc := cX11_checkSlots) (maxL := 6) (ret := none) (by decide) rfl ?_
  intro p e s m args below meth c s₁ B hml hv
  obtain ⟨rfl, hsz, hP, hK, hD0, hE⟩ := hv
  have hx := B.exec
  have hb := B.bytes
  have hr := B.returns
  have hts := atoms_spec (ws := wp_X11_checkSlots) B.pre
  have hown : s.vm.findClass RX11 = some m.cls := findClass_of_methodNamed B.named
  have hlocks := B.notSynchronized
  subst hsz
  have hD : sm_D (sm_a α 40 s.heap.size) α 40 := hD0.own
  have hA : ∀ q : Nat, s.heap.size ≤ q → sm_a α 40 s.heap.size q := fun q h => Or.inr h
  generalize hAe : sm_a α 40 s.heap.size = A at hD hA hE ⊢
  have hS : va_S A s.heap s.heap [] := va_S.rf
  have in_X11 : ∀ w ∈ wsX110, w ∈ wp_X11_checkSlots := wi_X11_checkSlots_X11
  have k_0 := hts (.fieldLink RX11 34 "SteadyMachineModel$Image" "slotPlaces" "[I") (by decide +kernel)
  have k_1 := hts (.fieldLink RX11 125 "SteadyMachineModel$Image" "methods" "I") (by decide +kernel)
  have k_2 := hts (.fieldLink RX11 40 "SteadyMachineModel$Image" "owners" "[I") (by decide +kernel)
  have k_3 := hts (.fieldLink RX11 91 "SteadyMachineModel$Image" "classes" "I") (by decide +kernel)
  have k_4 := hts (.fieldLink RX11 31 "SteadyMachineModel$Image" "slots" "[I") (by decide +kernel)
  have k_5 := hts (.fieldLink RX11 22 "SteadyMachineModel$Image" "uppers" "[I") (by decide +kernel)
  have hl := lv_entry ([.ref (α.1 0)]) (n := 6) (Nat.le_of_ble_eq_true rfl)
  rw [lg_entry_eq]
  generalize (lg_sl ([.ref (α.1 0)]) ++ List.replicate (6 - (lg_sl ([.ref (α.1 0)])).length) Slot.unset).toArray = ls at hl ⊢
  have hl : lv_has ls 6 [(0, .ref (α.1 0))] := hl
  have B131 : ∀ (L2 : sm_S → Int32 → Prop) (hL2 : ∀ (σ : sm_S) (x1 : Int32), L2 σ x1 → sm_J p l e (headSpec wp_X11_checkSlots { frames := 1, cells := 0, slots := 0, locals := 24 }).room s m ([.ref (α.1 0)] : List Value).toArray below meth c (MQ below (va_Qv K (sm_B sm_wM D α) A) ([.ref (α.1 0)] : List Value).toArray s 0 0 A) D A 6 (sm_wM σ α) 2 [(0, .ref (α.1 0)), (1, .int x1)] []) (σ : sm_S) (x1 : Int32), mp_X11_checkSlots_131 L2 K σ x1 → sm_J p l e (headSpec wp_X11_checkSlots { frames := 1, cells := 0, slots := 0, locals := 24 }).room s m ([.ref (α.1 0)] : List Value).toArray below meth c (MQ below (va_Qv K (sm_B sm_wM D α) A) ([.ref (α.1 0)] : List Value).toArray s 0 0 A) D A 6 (sm_wM σ α) 131 [(0, .ref (α.1 0)), (1, .int x1)] [] := by
    intro L2 hL2 σ x1 hF H locs ls hP hS hl
    unfold mp_X11_checkSlots_131 at hF
    obtain ⟨v1, ev1⟩ : ∃ y : Int32, y = x1 + 1 := ⟨_, rfl⟩
    replace hF := hF v1 ev1
    refine lv_iinc (v := v1) (lv' := [(1, .int v1), (0, .ref (α.1 0))]) hx hb dX11_checkSlots_131 hl (k := 1) rfl (by rw [ev1]; rfl) (by decide) rfl (fun ls hl => ?_)
    refine lv_goto (tgt := 2) hx hb dX11_checkSlots_134 (by decide) ?_
    exact hL2 σ v1 hF H locs ls hP hS (lv_sub hl [1, 0] rfl)
  have B117 : ∀ (L2 : sm_S → Int32 → Prop) (hL2 : ∀ (σ : sm_S) (x1 : Int32), L2 σ x1 → sm_J p l e (headSpec wp_X11_checkSlots { frames := 1, cells := 0, slots := 0, locals := 24 }).room s m ([.ref (α.1 0)] : List Value).toArray below meth c (MQ below (va_Qv K (sm_B sm_wM D α) A) ([.ref (α.1 0)] : List Value).toArray s 0 0 A) D A 6 (sm_wM σ α) 2 [(0, .ref (α.1 0)), (1, .int x1)] []) (σ : sm_S) (x1 : Int32) (y0 : Int32), mp_X11_checkSlots_117 L2 K σ x1 y0 → sm_J p l e (headSpec wp_X11_checkSlots { frames := 1, cells := 0, slots := 0, locals := 24 }).room s m ([.ref (α.1 0)] : List Value).toArray below meth c (MQ below (va_Qv K (sm_B sm_wM D α) A) ([.ref (α.1 0)] : List Value).toArray s 0 0 A) D A 6 (sm_wM σ α) 117 [(0, .ref (α.1 0)), (1, .int x1)] [.int y0] := by
    intro L2 hL2 σ x1 y0 hF H locs ls hP hS hl
    unfold mp_X11_checkSlots_117 at hF
    refine lv_istore (lv' := [(5, .int y0), (0, .ref (α.1 0)), (1, .int x1)]) hx hb dX11_checkSlots_117 hl (by decide) rfl (fun ls hl => ?_)
    refine lv_aload_n hx hb dX11_checkSlots_119 rfl (lv_at hl 1 rfl) ?_
    refine lv_aload_n hx hb dX11_checkSlots_120 rfl (lv_at hl 1 rfl) ?_
    refine va_get (D := D) (ci := 11) (v := .ref (α.1 9)) (C := RX11) (T := TX11) (N := 28) hx hb hts in_X11 hown hK hP 0 (sm_gX11 σ α) rfl 13 (by decide) k_0 (fun _ h9 => h9) rfl dX11_checkSlots_121 ?_
    refine lv_iload_n hx hb dX11_checkSlots_124 rfl (lv_at hl 2 rfl) ?_
    obtain ⟨h2, hF⟩ := hF
    refine va_iald (n := (σ.2.2.1 9)) (f := (σ.2.2.2.1 9)) hx hb hK hP 9 7 (sm_aM9 σ α) (sm_yM9 α) h2 dX11_checkSlots_125 ?_
    refine lv_iload hx hb dX11_checkSlots_126 (lv_at hl 0 rfl) ?_
    refine sm_vv (As := [.int ((σ.2.2.2.1 9) x1.toNatClampNeg), .int y0]) (rest := []) hP hK hD hE hS hA ⟨hx, hb, hml, hown, hts⟩ hl.1 (c_X11_note l D H.size t0 σ α ((σ.2.2.2.1 9) x1.toNatClampNeg) y0 _ hF) (cwV 2 hts wg_X11_checkSlots_X11_note_137 rfl rfl rfl (by decide +kernel) ⟨Nat.le_of_ble_eq_true rfl, Nat.le_of_ble_eq_true rfl⟩) (va_recv hK hP (ci := 11) (q0 := 0) rfl (sm_gX11 σ α)) rfl rfl (Nat.le_of_ble_eq_true rfl) dX11_checkSlots_128 ⟨Nat.zero_le _, Nat.zero_le _⟩ (fun σ3 H locs hF hP hS => ?_)
    exact B131 L2 hL2 σ3 x1 hF H locs ls hP hS (lv_sub hl [1, 2] rfl)
  have B116 : ∀ (L2 : sm_S → Int32 → Prop) (hL2 : ∀ (σ : sm_S) (x1 : Int32), L2 σ x1 → sm_J p l e (headSpec wp_X11_checkSlots { frames := 1, cells := 0, slots := 0, locals := 24 }).room s m ([.ref (α.1 0)] : List Value).toArray below meth c (MQ below (va_Qv K (sm_B sm_wM D α) A) ([.ref (α.1 0)] : List Value).toArray s 0 0 A) D A 6 (sm_wM σ α) 2 [(0, .ref (α.1 0)), (1, .int x1)] []) (σ : sm_S) (x1 : Int32), mp_X11_checkSlots_116 L2 K σ x1 → sm_J p l e (headSpec wp_X11_checkSlots { frames := 1, cells := 0, slots := 0, locals := 24 }).room s m ([.ref (α.1 0)] : List Value).toArray below meth c (MQ below (va_Qv K (sm_B sm_wM D α) A) ([.ref (α.1 0)] : List Value).toArray s 0 0 A) D A 6 (sm_wM σ α) 116 [(0, .ref (α.1 0)), (1, .int x1)] [] := by
    intro L2 hL2 σ x1 hF H locs ls hP hS hl
    unfold mp_X11_checkSlots_116 at hF
    refine lv_iconst (v := 0) hx hb dX11_checkSlots_116 (by decide) ?_
    exact B117 L2 hL2 σ x1 0 hF H locs ls hP hS (lv_sub hl [0, 1] rfl)
  have B112 : ∀ (L2 : sm_S → Int32 → Prop) (hL2 : ∀ (σ : sm_S) (x1 : Int32), L2 σ x1 → sm_J p l e (headSpec wp_X11_checkSlots { frames := 1, cells := 0, slots := 0, locals := 24 }).room s m ([.ref (α.1 0)] : List Value).toArray below meth c (MQ below (va_Qv K (sm_B sm_wM D α) A) ([.ref (α.1 0)] : List Value).toArray s 0 0 A) D A 6 (sm_wM σ α) 2 [(0, .ref (α.1 0)), (1, .int x1)] []) (σ : sm_S) (x1 : Int32), mp_X11_checkSlots_112 L2 K σ x1 → sm_J p l e (headSpec wp_X11_checkSlots { frames := 1, cells := 0, slots := 0, locals := 24 }).room s m ([.ref (α.1 0)] : List Value).toArray below meth c (MQ below (va_Qv K (sm_B sm_wM D α) A) ([.ref (α.1 0)] : List Value).toArray s 0 0 A) D A 6 (sm_wM σ α) 112 [(0, .ref (α.1 0)), (1, .int x1)] [] := by
    intro L2 hL2 σ x1 hF H locs ls hP hS hl
    unfold mp_X11_checkSlots_112 at hF
    refine lv_iconst (v := 1) hx hb dX11_checkSlots_112 (by decide) ?_
    refine lv_goto (tgt := 117) hx hb dX11_checkSlots_113 (by decide) ?_
    exact B117 L2 hL2 σ x1 1 hF H locs ls hP hS (lv_sub hl [0, 1] rfl)
  have B67 : ∀ (L2 : sm_S → Int32 → Prop) (hL2 : ∀ (σ : sm_S) (x1 : Int32), L2 σ x1 → sm_J p l e (headSpec wp_X11_checkSlots { frames := 1, cells := 0, slots := 0, locals := 24 }).room s m ([.ref (α.1 0)] : List Value).toArray below meth c (MQ below (va_Qv K (sm_B sm_wM D α) A) ([.ref (α.1 0)] : List Value).toArray s 0 0 A) D A 6 (sm_wM σ α) 2 [(0, .ref (α.1 0)), (1, .int x1)] []) (σ : sm_S) (x1 : Int32) (x2 : Int32) (x3 : Int32) (y0 : Int32), mp_X11_checkSlots_67 L2 K σ x1 x2 x3 y0 → sm_J p l e (headSpec wp_X11_checkSlots { frames := 1, cells := 0, slots := 0, locals := 24 }).room s m ([.ref (α.1 0)] : List Value).toArray below meth c (MQ below (va_Qv K (sm_B sm_wM D α) A) ([.ref (α.1 0)] : List Value).toArray s 0 0 A) D A 6 (sm_wM σ α) 67 [(0, .ref (α.1 0)), (1, .int x1), (2, .int x2), (3, .int x3)] [.int y0] := by
    intro L2 hL2 σ x1 x2 x3 y0 hF H locs ls hP hS hl
    unfold mp_X11_checkSlots_67 at hF
    refine lv_istore (lv' := [(4, .int y0), (0, .ref (α.1 0)), (1, .int x1), (2, .int x2), (3, .int x3)]) hx hb dX11_checkSlots_67 hl (by decide) rfl (fun ls hl => ?_)
    refine lv_iload_n hx hb dX11_checkSlots_69 rfl (lv_at hl 4 rfl) ?_
    refine lv_aload_n hx hb dX11_checkSlots_70 rfl (lv_at hl 1 rfl) ?_
    refine va_get (D := D) (ci := 11) (v := .int (σ.1 6)) (C := RX11) (T := TX11) (N := 28) hx hb hts in_X11 hown hK hP 0 (sm_gX11 σ α) rfl 15 (by decide) k_1 (fun _ h9 => h9) rfl dX11_checkSlots_71 ?_
    refine lv_icmp_ge (tgt := 116) hx hb dX11_checkSlots_74 (by decide) (fun h4 => ?_) (fun h4 => ?_)
    · replace hF := hF.1 h4
      exact B116 L2 hL2 σ x1 hF H locs ls hP hS (lv_sub hl [1, 2] rfl)
    · replace hF := hF.2 h4
      refine lv_aload_n hx hb dX11_checkSlots_77 rfl (lv_at hl 1 rfl) ?_
      refine va_get (D := D) (ci := 11) (v := .ref (α.1 11)) (C := RX11) (T := TX11) (N := 28) hx hb hts in_X11 hown hK hP 0 (sm_gX11 σ α) rfl 16 (by decide) k_2 (fun _ h9 => h9) rfl dX11_checkSlots_78 ?_
      refine lv_iload_n hx hb dX11_checkSlots_81 rfl (lv_at hl 4 rfl) ?_
      obtain ⟨h5, hF⟩ := hF
      refine va_iald (n := (σ.2.2.1 11)) (f := (σ.2.2.2.1 11)) hx hb hK hP 11 9 (sm_aM11 σ α) (sm_yM11 α) h5 dX11_checkSlots_82 ?_
      refine lv_iload_n hx hb dX11_checkSlots_83 rfl (lv_at hl 3 rfl) ?_
      refine lv_icmp_ne (tgt := 116) hx hb dX11_checkSlots_84 (by decide) (fun h6 => ?_) (fun h6 => ?_)
      · replace hF := hF.1 h6
        exact B116 L2 hL2 σ x1 hF H locs ls hP hS (lv_sub hl [1, 2] rfl)
      · replace hF := hF.2 h6
        refine lv_iload hx hb dX11_checkSlots_87 (lv_at hl 0 rfl) ?_
        refine lv_iconst (v := -1) hx hb dX11_checkSlots_89 (by decide) ?_
        refine lv_icmp_eq (tgt := 112) hx hb dX11_checkSlots_90 (by decide) (fun h7 => ?_) (fun h7 => ?_)
        · replace hF := hF.1 h7
          exact B112 L2 hL2 σ x1 hF H locs ls hP hS (lv_sub hl [1, 2] rfl)
        · replace hF := hF.2 h7
          refine lv_iload hx hb dX11_checkSlots_93 (lv_at hl 0 rfl) ?_
          refine lv_aload_n hx hb dX11_checkSlots_95 rfl (lv_at hl 1 rfl) ?_
          refine va_get (D := D) (ci := 11) (v := .int (σ.1 6)) (C := RX11) (T := TX11) (N := 28) hx hb hts in_X11 hown hK hP 0 (sm_gX11 σ α) rfl 15 (by decide) k_1 (fun _ h9 => h9) rfl dX11_checkSlots_96 ?_
          refine lv_icmp_ge (tgt := 112) hx hb dX11_checkSlots_99 (by decide) (fun h8 => ?_) (fun h8 => ?_)
          · replace hF := hF.1 h8
            exact B112 L2 hL2 σ x1 hF H locs ls hP hS (lv_sub hl [1, 2] rfl)
          · replace hF := hF.2 h8
            refine lv_aload_n hx hb dX11_checkSlots_102 rfl (lv_at hl 1 rfl) ?_
            refine lv_iload_n hx hb dX11_checkSlots_103 rfl (lv_at hl 4 rfl) ?_
            refine lv_iload hx hb dX11_checkSlots_104 (lv_at hl 0 rfl) ?_
            refine sm_vi (As := [.int x3, .int y0]) (rest := []) hP hK hD hE hS hA ⟨hx, hb, hml, hown, hts⟩ hl.1 (c_X11_isLike l D H.size t0 σ α x3 y0 _ hF) (cwV 2 hts wg_X11_checkSlots_X11_isLike_134 rfl rfl rfl (by decide +kernel) ⟨Nat.le_of_ble_eq_true rfl, Nat.le_of_ble_eq_true rfl⟩) (va_recv hK hP (ci := 11) (q0 := 0) rfl (sm_gX11 σ α)) rfl rfl (Nat.le_of_ble_eq_true rfl) dX11_checkSlots_106 ⟨Nat.zero_le _, Nat.zero_le _⟩ (fun r10 σ9 H locs hF hP hS => ?_)
            refine lv_if_eq (tgt := 116) hx hb dX11_checkSlots_109 (by decide) (fun h11 => ?_) (fun h11 => ?_)
            · replace hF := hF.1 h11
              exact B116 L2 hL2 σ9 x1 hF H locs ls hP hS (lv_sub hl [1, 2] rfl)
            · replace hF := hF.2 h11
              exact B112 L2 hL2 σ9 x1 hF H locs ls hP hS (lv_sub hl [1, 2] rfl)
  have B2 : ∀ (n : Nat) (σ : sm_S) (x1 : Int32), mp_X11_checkSlots_2 K n σ x1 → sm_J p l e (headSpec wp_X11_checkSlots { frames := 1, cells := 0, slots := 0, locals := 24 }).room s m ([.ref (α.1 0)] : List Value).toArray below meth c (MQ below (va_Qv K (sm_B sm_wM D α) A) ([.ref (α.1 0)] : List Value).toArray s 0 0 A) D A 6 (sm_wM σ α) 2 [(0, .ref (α.1 0)), (1, .int x1)] [] := by
    intro n2
    induction n2 with
    | zero =>
      intro σ x1 hF
      exact hF.elim
    | succ n2 ih2 =>
      intro σ x1 hF H locs ls hP hS hl
      unfold mp_X11_checkSlots_2 at hF
      refine lv_iload_n hx hb dX11_checkSlots_2 rfl (lv_at hl 1 rfl) ?_
      refine lv_bipush (v := 16) hx hb dX11_checkSlots_3 (by decide) ?_
      refine lv_aload_n hx hb dX11_checkSlots_5 rfl (lv_at hl 0 rfl) ?_
      refine va_get (D := D) (ci := 11) (v := .int (σ.1 5)) (C := RX11) (T := TX11) (N := 28) hx hb hts in_X11 hown hK hP 0 (sm_gX11 σ α) rfl 8 (by decide) k_3 (fun _ h9 => h9) rfl dX11_checkSlots_6 ?_
      refine lv_imul hx hb dX11_checkSlots_9 ?_
      refine lv_icmp_ge (tgt := 137) hx hb dX11_checkSlots_10 (by decide) (fun h12 => ?_) (fun h12 => ?_)
      · replace hF := hF.1 h12
        exact W.vret hx hb hr (fun t ht hW => ⟨⟨σ, rfl, hF, (by unfold sm_B; rw [ht]; exact hP)⟩, hS.F ht⟩) hS.2.2 dX11_checkSlots_137
      · replace hF := hF.2 h12
        refine lv_iload_n hx hb dX11_checkSlots_13 rfl (lv_at hl 1 rfl) ?_
        refine lv_bipush (v := 16) hx hb dX11_checkSlots_14 (by decide) ?_
        refine lv_idiv hx hb dX11_checkSlots_16 (by decide) ?_
        refine lv_topi (fun v13 ev13 => ?_)
        replace hF := hF v13 ev13
        refine lv_istore_n (lv' := [(2, .int v13), (0, .ref (α.1 0)), (1, .int x1)]) hx hb dX11_checkSlots_17 rfl hl (by decide) rfl (fun ls hl => ?_)
        refine lv_aload_n hx hb dX11_checkSlots_18 rfl (lv_at hl 1 rfl) ?_
        refine va_get (D := D) (ci := 11) (v := .ref (α.1 8)) (C := RX11) (T := TX11) (N := 28) hx hb hts in_X11 hown hK hP 0 (sm_gX11 σ α) rfl 12 (by decide) k_4 (fun _ h9 => h9) rfl dX11_checkSlots_19 ?_
        refine lv_iload_n hx hb dX11_checkSlots_22 rfl (lv_at hl 2 rfl) ?_
        obtain ⟨h14, hF⟩ := hF
        refine va_iald (n := (σ.2.2.1 8)) (f := (σ.2.2.2.1 8)) hx hb hK hP 8 6 (sm_aM8 σ α) (sm_yM8 α) h14 dX11_checkSlots_23 ?_
        refine lv_topi (fun v15 ev15 => ?_)
        replace hF := hF v15 ev15
        refine lv_istore_n (lv' := [(3, .int v15), (2, .int v13), (0, .ref (α.1 0)), (1, .int x1)]) hx hb dX11_checkSlots_24 rfl hl (by decide) rfl (fun ls hl => ?_)
        refine lv_aload_n hx hb dX11_checkSlots_25 rfl (lv_at hl 2 rfl) ?_
        refine va_get (D := D) (ci := 11) (v := .ref (α.1 9)) (C := RX11) (T := TX11) (N := 28) hx hb hts in_X11 hown hK hP 0 (sm_gX11 σ α) rfl 13 (by decide) k_0 (fun _ h9 => h9) rfl dX11_checkSlots_26 ?_
        refine lv_iload_n hx hb dX11_checkSlots_29 rfl (lv_at hl 3 rfl) ?_
        obtain ⟨h16, hF⟩ := hF
        refine va_iald (n := (σ.2.2.1 9)) (f := (σ.2.2.2.1 9)) hx hb hK hP 9 7 (sm_aM9 σ α) (sm_yM9 α) h16 dX11_checkSlots_30 ?_
        refine lv_iconst (v := -1) hx hb dX11_checkSlots_31 (by decide) ?_
        refine lv_icmp_eq (tgt := 131) hx hb dX11_checkSlots_32 (by decide) (fun h17 => ?_) (fun h17 => ?_)
        · replace hF := hF.1 h17
          exact B131 (mp_X11_checkSlots_2 K n2) ih2 σ x1 hF H locs ls hP hS (lv_sub hl [2, 3] rfl)
        · replace hF := hF.2 h17
          refine lv_aload_n hx hb dX11_checkSlots_35 rfl (lv_at hl 2 rfl) ?_
          refine va_get (D := D) (ci := 11) (v := .ref (α.1 5)) (C := RX11) (T := TX11) (N := 28) hx hb hts in_X11 hown hK hP 0 (sm_gX11 σ α) rfl 9 (by decide) k_5 (fun _ h9 => h9) rfl dX11_checkSlots_36 ?_
          refine lv_iload_n hx hb dX11_checkSlots_39 rfl (lv_at hl 1 rfl) ?_
          obtain ⟨h18, hF⟩ := hF
          refine va_iald (n := (σ.2.2.1 5)) (f := (σ.2.2.2.1 5)) hx hb hK hP 5 3 (sm_aM5 σ α) (sm_yM5 α) h18 dX11_checkSlots_40 ?_
          refine lv_if_ge (tgt := 48) hx hb dX11_checkSlots_41 (by decide) (fun h19 => ?_) (fun h19 => ?_)
          · replace hF := hF.1 h19
            refine lv_aload_n hx hb dX11_checkSlots_48 rfl (lv_at hl 2 rfl) ?_
            refine va_get (D := D) (ci := 11) (v := .ref (α.1 8)) (C := RX11) (T := TX11) (N := 28) hx hb hts in_X11 hown hK hP 0 (sm_gX11 σ α) rfl 12 (by decide) k_4 (fun _ h9 => h9) rfl dX11_checkSlots_49 ?_
            refine lv_bipush (v := 16) hx hb dX11_checkSlots_52 (by decide) ?_
            refine lv_aload_n hx hb dX11_checkSlots_54 rfl (lv_at hl 2 rfl) ?_
            refine va_get (D := D) (ci := 11) (v := .ref (α.1 5)) (C := RX11) (T := TX11) (N := 28) hx hb hts in_X11 hown hK hP 0 (sm_gX11 σ α) rfl 9 (by decide) k_5 (fun _ h9 => h9) rfl dX11_checkSlots_55 ?_
            refine lv_iload_n hx hb dX11_checkSlots_58 rfl (lv_at hl 1 rfl) ?_
            obtain ⟨h20, hF⟩ := hF
            refine va_iald (n := (σ.2.2.1 5)) (f := (σ.2.2.2.1 5)) hx hb hK hP 5 3 (sm_aM5 σ α) (sm_yM5 α) h20 dX11_checkSlots_59 ?_
            refine lv_imul hx hb dX11_checkSlots_60 ?_
            refine lv_iload_n hx hb dX11_checkSlots_61 rfl (lv_at hl 3 rfl) ?_
            refine lv_bipush (v := 16) hx hb dX11_checkSlots_62 (by decide) ?_
            refine lv_irem hx hb dX11_checkSlots_64 (by decide) ?_
            refine lv_iadd hx hb dX11_checkSlots_65 ?_
            obtain ⟨h21, hF⟩ := hF
            refine va_iald (n := (σ.2.2.1 8)) (f := (σ.2.2.2.1 8)) hx hb hK hP 8 6 (sm_aM8 σ α) (sm_yM8 α) h21 dX11_checkSlots_66 ?_
            exact B67 (mp_X11_checkSlots_2 K n2) ih2 σ x1 v13 v15 ((σ.2.2.2.1 8) ((16 * ((σ.2.2.2.1 5) v13.toNatClampNeg)) + (x1 - x1 / 16 * 16)).toNatClampNeg) hF H locs ls hP hS (lv_sub hl [2, 3, 1, 0] rfl)
          · replace hF := hF.2 h19
            refine lv_iconst (v := -1) hx hb dX11_checkSlots_44 (by decide) ?_
            refine lv_goto (tgt := 67) hx hb dX11_checkSlots_45 (by decide) ?_
            exact B67 (mp_X11_checkSlots_2 K n2) ih2 σ x1 v13 v15 (-1) hF H locs ls hP hS (lv_sub hl [2, 3, 1, 0] rfl)
  unfold mp_X11_checkSlots at hF
  revert hP hS
  generalize hLo : ([] : List Loc) = locs
  suffices h9 : ∀ (H : Heap) (locs : List Loc), va_P D vwCl (sm_wM σ α) H → va_S A s.heap H locs → W p l e (headSpec wp_X11_checkSlots { frames := 1, cells := 0, slots := 0, locals := 24 }).room s m ([.ref (α.1 0)] : List Value).toArray below meth c H locs 0 0 (MQ below (va_Qv K (sm_B sm_wM D α) A) ([.ref (α.1 0)] : List Value).toArray s 0 0 A) (F0 m 0 ls []) from fun hP hS => h9 s.heap locs hP hS
  intro H locs hP hS
  refine lv_iconst (v := 0) hx hb dX11_checkSlots_0 (by decide) ?_
  refine lv_istore_n (lv' := [(1, .int 0), (0, .ref (α.1 0))]) hx hb dX11_checkSlots_1 rfl hl (by decide) rfl (fun ls hl => ?_)
  obtain ⟨n2, hF⟩ := hF
  exact B2 n2 σ 0 hF H locs ls hP hS (lv_sub hl [1, 0] rfl)
theorem dX11_checkCode_0 : decode cX11_checkCode 0 = .ok (.aload_n 0, 1) := by decide +kernel
theorem dX11_checkCode_1 : decode cX11_checkCode 1 = .ok (.getfield 58, 3) := by decide +kernel
theorem dX11_checkCode_4 : decode cX11_checkCode 4 = .ok (.iload_n 1, 1) := by decide +kernel
theorem dX11_checkCode_5 : decode cX11_checkCode 5 = .ok (.iaload, 1) := by decide +kernel
theorem dX11_checkCode_6 : decode cX11_checkCode 6 = .ok (.istore_n 2, 1) := by decide +kernel
theorem dX11_checkCode_7 : decode cX11_checkCode 7 = .ok (.iload_n 2, 1) := by decide +kernel
theorem dX11_checkCode_8 : decode cX11_checkCode 8 = .ok (.aload_n 0, 1) := by decide +kernel
theorem dX11_checkCode_9 : decode cX11_checkCode 9 = .ok (.getfield 58, 3) := by decide +kernel
theorem dX11_checkCode_12 : decode cX11_checkCode 12 = .ok (.iload_n 1, 1) := by decide +kernel
theorem dX11_checkCode_13 : decode cX11_checkCode 13 = .ok (.iaload, 1) := by decide +kernel
theorem dX11_checkCode_14 : decode cX11_checkCode 14 = .ok (.aload_n 0, 1) := by decide +kernel
theorem dX11_checkCode_15 : decode cX11_checkCode 15 = .ok (.getfield 61, 3) := by decide +kernel
theorem dX11_checkCode_18 : decode cX11_checkCode 18 = .ok (.iload_n 1, 1) := by decide +kernel
theorem dX11_checkCode_19 : decode cX11_checkCode 19 = .ok (.iaload, 1) := by decide +kernel
theorem dX11_checkCode_20 : decode cX11_checkCode 20 = .ok (.iadd, 1) := by decide +kernel
theorem dX11_checkCode_21 : decode cX11_checkCode 21 = .ok (.if_icmp .ge 120, 3) := by decide +kernel
theorem dX11_checkCode_24 : decode cX11_checkCode 24 = .ok (.aload_n 0, 1) := by decide +kernel
theorem dX11_checkCode_25 : decode cX11_checkCode 25 = .ok (.getfield 18, 3) := by decide +kernel
theorem dX11_checkCode_28 : decode cX11_checkCode 28 = .ok (.iload_n 2, 1) := by decide +kernel
theorem dX11_checkCode_29 : decode cX11_checkCode 29 = .ok (.baload, 1) := by decide +kernel
theorem dX11_checkCode_30 : decode cX11_checkCode 30 = .ok (.ifCond .eq 105, 3) := by decide +kernel
theorem dX11_checkCode_33 : decode cX11_checkCode 33 = .ok (.aload_n 0, 1) := by decide +kernel
theorem dX11_checkCode_34 : decode cX11_checkCode 34 = .ok (.getfield 15, 3) := by decide +kernel
theorem dX11_checkCode_37 : decode cX11_checkCode 37 = .ok (.iload_n 2, 1) := by decide +kernel
theorem dX11_checkCode_38 : decode cX11_checkCode 38 = .ok (.iaload, 1) := by decide +kernel
theorem dX11_checkCode_39 : decode cX11_checkCode 39 = .ok (.istore_n 3, 1) := by decide +kernel
theorem dX11_checkCode_40 : decode cX11_checkCode 40 = .ok (.iload_n 3, 1) := by decide +kernel
theorem dX11_checkCode_41 : decode cX11_checkCode 41 = .ok (.bipush 19, 2) := by decide +kernel
theorem dX11_checkCode_43 : decode cX11_checkCode 43 = .ok (.if_icmp .eq 9, 3) := by decide +kernel
theorem dX11_checkCode_46 : decode cX11_checkCode 46 = .ok (.iload_n 3, 1) := by decide +kernel
theorem dX11_checkCode_47 : decode cX11_checkCode 47 = .ok (.bipush 20, 2) := by decide +kernel
theorem dX11_checkCode_49 : decode cX11_checkCode 49 = .ok (.if_icmp .ne 9, 3) := by decide +kernel
theorem dX11_checkCode_52 : decode cX11_checkCode 52 = .ok (.iload_n 2, 1) := by decide +kernel
theorem dX11_checkCode_53 : decode cX11_checkCode 53 = .ok (.iconst 2, 1) := by decide +kernel
theorem dX11_checkCode_54 : decode cX11_checkCode 54 = .ok (.iadd, 1) := by decide +kernel
theorem dX11_checkCode_55 : decode cX11_checkCode 55 = .ok (.goto 22, 3) := by decide +kernel
theorem dX11_checkCode_58 : decode cX11_checkCode 58 = .ok (.iload_n 3, 1) := by decide +kernel
theorem dX11_checkCode_59 : decode cX11_checkCode 59 = .ok (.bipush 21, 2) := by decide +kernel
theorem dX11_checkCode_61 : decode cX11_checkCode 61 = .ok (.if_icmp .lt 15, 3) := by decide +kernel
theorem dX11_checkCode_64 : decode cX11_checkCode 64 = .ok (.iload_n 3, 1) := by decide +kernel
theorem dX11_checkCode_65 : decode cX11_checkCode 65 = .ok (.bipush 25, 2) := by decide +kernel
theorem dX11_checkCode_67 : decode cX11_checkCode 67 = .ok (.if_icmp .gt 9, 3) := by decide +kernel
theorem dX11_checkCode_70 : decode cX11_checkCode 70 = .ok (.iload_n 2, 1) := by decide +kernel
theorem dX11_checkCode_71 : decode cX11_checkCode 71 = .ok (.iconst 1, 1) := by decide +kernel
theorem dX11_checkCode_72 : decode cX11_checkCode 72 = .ok (.iadd, 1) := by decide +kernel
theorem dX11_checkCode_73 : decode cX11_checkCode 73 = .ok (.goto 4, 3) := by decide +kernel
theorem dX11_checkCode_76 : decode cX11_checkCode 76 = .ok (.iconst (-1), 1) := by decide +kernel
theorem dX11_checkCode_77 : decode cX11_checkCode 77 = .ok (.istore 4, 2) := by decide +kernel
theorem dX11_checkCode_79 : decode cX11_checkCode 79 = .ok (.iload 4, 2) := by decide +kernel
theorem dX11_checkCode_81 : decode cX11_checkCode 81 = .ok (.iconst (-1), 1) := by decide +kernel
theorem dX11_checkCode_82 : decode cX11_checkCode 82 = .ok (.if_icmp .eq 20, 3) := by decide +kernel
theorem dX11_checkCode_85 : decode cX11_checkCode 85 = .ok (.aload_n 0, 1) := by decide +kernel
theorem dX11_checkCode_86 : decode cX11_checkCode 86 = .ok (.iload 4, 2) := by decide +kernel
theorem dX11_checkCode_88 : decode cX11_checkCode 88 = .ok (.aload_n 0, 1) := by decide +kernel
theorem dX11_checkCode_89 : decode cX11_checkCode 89 = .ok (.iload_n 1, 1) := by decide +kernel
theorem dX11_checkCode_90 : decode cX11_checkCode 90 = .ok (.aload_n 0, 1) := by decide +kernel
theorem dX11_checkCode_91 : decode cX11_checkCode 91 = .ok (.iload 4, 2) := by decide +kernel
theorem dX11_checkCode_93 : decode cX11_checkCode 93 = .ok (.invokevirtual 105, 3) := by decide +kernel
theorem dX11_checkCode_96 : decode cX11_checkCode 96 = .ok (.invokevirtual 141, 3) := by decide +kernel
theorem dX11_checkCode_99 : decode cX11_checkCode 99 = .ok (.invokevirtual 137, 3) := by decide +kernel
theorem dX11_checkCode_102 : decode cX11_checkCode 102 = .ok (.iload_n 3, 1) := by decide +kernel
theorem dX11_checkCode_103 : decode cX11_checkCode 103 = .ok (.bipush 35, 2) := by decide +kernel
theorem dX11_checkCode_105 : decode cX11_checkCode 105 = .ok (.if_icmp .ne 30, 3) := by decide +kernel
theorem dX11_checkCode_108 : decode cX11_checkCode 108 = .ok (.aload_n 0, 1) := by decide +kernel
theorem dX11_checkCode_109 : decode cX11_checkCode 109 = .ok (.iload_n 2, 1) := by decide +kernel
theorem dX11_checkCode_110 : decode cX11_checkCode 110 = .ok (.iconst 1, 1) := by decide +kernel
theorem dX11_checkCode_111 : decode cX11_checkCode 111 = .ok (.iadd, 1) := by decide +kernel
theorem dX11_checkCode_112 : decode cX11_checkCode 112 = .ok (.aload_n 0, 1) := by decide +kernel
theorem dX11_checkCode_113 : decode cX11_checkCode 113 = .ok (.getfield 15, 3) := by decide +kernel
theorem dX11_checkCode_116 : decode cX11_checkCode 116 = .ok (.iload_n 2, 1) := by decide +kernel
theorem dX11_checkCode_117 : decode cX11_checkCode 117 = .ok (.iconst 1, 1) := by decide +kernel
theorem dX11_checkCode_118 : decode cX11_checkCode 118 = .ok (.iadd, 1) := by decide +kernel
theorem dX11_checkCode_119 : decode cX11_checkCode 119 = .ok (.iaload, 1) := by decide +kernel
theorem dX11_checkCode_120 : decode cX11_checkCode 120 = .ok (.aload_n 0, 1) := by decide +kernel
theorem dX11_checkCode_121 : decode cX11_checkCode 121 = .ok (.getfield 125, 3) := by decide +kernel
theorem dX11_checkCode_124 : decode cX11_checkCode 124 = .ok (.if_icmp .ge 7, 3) := by decide +kernel
theorem dX11_checkCode_127 : decode cX11_checkCode 127 = .ok (.iconst 1, 1) := by decide +kernel
theorem dX11_checkCode_128 : decode cX11_checkCode 128 = .ok (.goto 4, 3) := by decide +kernel
theorem dX11_checkCode_131 : decode cX11_checkCode 131 = .ok (.iconst 0, 1) := by decide +kernel
theorem dX11_checkCode_132 : decode cX11_checkCode 132 = .ok (.invokevirtual 137, 3) := by decide +kernel
theorem dX11_checkCode_135 : decode cX11_checkCode 135 = .ok (.iinc 2 1, 3) := by decide +kernel
theorem dX11_checkCode_138 : decode cX11_checkCode 138 = .ok (.goto (-131), 3) := by decide +kernel
theorem dX11_checkCode_141 : decode cX11_checkCode 141 = .ok (.iconst 0, 1) := by decide +kernel
theorem dX11_checkCode_142 : decode cX11_checkCode 142 = .ok (.istore_n 2, 1) := by decide +kernel
theorem dX11_checkCode_143 : decode cX11_checkCode 143 = .ok (.iload_n 2, 1) := by decide +kernel
theorem dX11_checkCode_144 : decode cX11_checkCode 144 = .ok (.aload_n 0, 1) := by decide +kernel
theorem dX11_checkCode_145 : decode cX11_checkCode 145 = .ok (.getfield 64, 3) := by decide +kernel
theorem dX11_checkCode_148 : decode cX11_checkCode 148 = .ok (.iload_n 1, 1) := by decide +kernel
theorem dX11_checkCode_149 : decode cX11_checkCode 149 = .ok (.iaload, 1) := by decide +kernel
theorem dX11_checkCode_150 : decode cX11_checkCode 150 = .ok (.if_icmp .ge 121, 3) := by decide +kernel
theorem dX11_checkCode_153 : decode cX11_checkCode 153 = .ok (.aload_n 0, 1) := by decide +kernel
theorem dX11_checkCode_154 : decode cX11_checkCode 154 = .ok (.getfield 67, 3) := by decide +kernel
theorem dX11_checkCode_157 : decode cX11_checkCode 157 = .ok (.iload_n 1, 1) := by decide +kernel
theorem dX11_checkCode_158 : decode cX11_checkCode 158 = .ok (.iaload, 1) := by decide +kernel
theorem dX11_checkCode_159 : decode cX11_checkCode 159 = .ok (.bipush 7, 2) := by decide +kernel
theorem dX11_checkCode_161 : decode cX11_checkCode 161 = .ok (.iload_n 2, 1) := by decide +kernel
theorem dX11_checkCode_162 : decode cX11_checkCode 162 = .ok (.imul, 1) := by decide +kernel
theorem dX11_checkCode_163 : decode cX11_checkCode 163 = .ok (.iadd, 1) := by decide +kernel
theorem dX11_checkCode_164 : decode cX11_checkCode 164 = .ok (.istore_n 3, 1) := by decide +kernel
theorem dX11_checkCode_165 : decode cX11_checkCode 165 = .ok (.aload_n 0, 1) := by decide +kernel
theorem dX11_checkCode_166 : decode cX11_checkCode 166 = .ok (.iload_n 3, 1) := by decide +kernel
theorem dX11_checkCode_167 : decode cX11_checkCode 167 = .ok (.aload_n 0, 1) := by decide +kernel
theorem dX11_checkCode_168 : decode cX11_checkCode 168 = .ok (.iload_n 1, 1) := by decide +kernel
theorem dX11_checkCode_169 : decode cX11_checkCode 169 = .ok (.aload_n 0, 1) := by decide +kernel
theorem dX11_checkCode_170 : decode cX11_checkCode 170 = .ok (.iload_n 3, 1) := by decide +kernel
theorem dX11_checkCode_171 : decode cX11_checkCode 171 = .ok (.invokevirtual 105, 3) := by decide +kernel
theorem dX11_checkCode_174 : decode cX11_checkCode 174 = .ok (.invokevirtual 141, 3) := by decide +kernel
theorem dX11_checkCode_177 : decode cX11_checkCode 177 = .ok (.ifCond .eq 22, 3) := by decide +kernel
theorem dX11_checkCode_180 : decode cX11_checkCode 180 = .ok (.aload_n 0, 1) := by decide +kernel
theorem dX11_checkCode_181 : decode cX11_checkCode 181 = .ok (.iload_n 3, 1) := by decide +kernel
theorem dX11_checkCode_182 : decode cX11_checkCode 182 = .ok (.invokevirtual 105, 3) := by decide +kernel
theorem dX11_checkCode_185 : decode cX11_checkCode 185 = .ok (.aload_n 0, 1) := by decide +kernel
theorem dX11_checkCode_186 : decode cX11_checkCode 186 = .ok (.iload_n 3, 1) := by decide +kernel
theorem dX11_checkCode_187 : decode cX11_checkCode 187 = .ok (.iconst 2, 1) := by decide +kernel
theorem dX11_checkCode_188 : decode cX11_checkCode 188 = .ok (.iadd, 1) := by decide +kernel
theorem dX11_checkCode_189 : decode cX11_checkCode 189 = .ok (.invokevirtual 105, 3) := by decide +kernel
theorem dX11_checkCode_192 : decode cX11_checkCode 192 = .ok (.if_icmp .ge 7, 3) := by decide +kernel
theorem dX11_checkCode_195 : decode cX11_checkCode 195 = .ok (.iconst 1, 1) := by decide +kernel
theorem dX11_checkCode_196 : decode cX11_checkCode 196 = .ok (.goto 4, 3) := by decide +kernel
theorem dX11_checkCode_199 : decode cX11_checkCode 199 = .ok (.iconst 0, 1) := by decide +kernel
theorem dX11_checkCode_200 : decode cX11_checkCode 200 = .ok (.invokevirtual 137, 3) := by decide +kernel
theorem dX11_checkCode_203 : decode cX11_checkCode 203 = .ok (.aload_n 0, 1) := by decide +kernel
theorem dX11_checkCode_204 : decode cX11_checkCode 204 = .ok (.iload_n 3, 1) := by decide +kernel
theorem dX11_checkCode_205 : decode cX11_checkCode 205 = .ok (.iconst 2, 1) := by decide +kernel
theorem dX11_checkCode_206 : decode cX11_checkCode 206 = .ok (.iadd, 1) := by decide +kernel
theorem dX11_checkCode_207 : decode cX11_checkCode 207 = .ok (.aload_n 0, 1) := by decide +kernel
theorem dX11_checkCode_208 : decode cX11_checkCode 208 = .ok (.iload_n 1, 1) := by decide +kernel
theorem dX11_checkCode_209 : decode cX11_checkCode 209 = .ok (.aload_n 0, 1) := by decide +kernel
theorem dX11_checkCode_210 : decode cX11_checkCode 210 = .ok (.iload_n 3, 1) := by decide +kernel
theorem dX11_checkCode_211 : decode cX11_checkCode 211 = .ok (.iconst 2, 1) := by decide +kernel
theorem dX11_checkCode_212 : decode cX11_checkCode 212 = .ok (.iadd, 1) := by decide +kernel
theorem dX11_checkCode_213 : decode cX11_checkCode 213 = .ok (.invokevirtual 105, 3) := by decide +kernel
theorem dX11_checkCode_216 : decode cX11_checkCode 216 = .ok (.invokevirtual 141, 3) := by decide +kernel
theorem dX11_checkCode_219 : decode cX11_checkCode 219 = .ok (.ifCond .ne 19, 3) := by decide +kernel
theorem dX11_checkCode_222 : decode cX11_checkCode 222 = .ok (.aload_n 0, 1) := by decide +kernel
theorem dX11_checkCode_223 : decode cX11_checkCode 223 = .ok (.iload_n 3, 1) := by decide +kernel
theorem dX11_checkCode_224 : decode cX11_checkCode 224 = .ok (.iconst 2, 1) := by decide +kernel
theorem dX11_checkCode_225 : decode cX11_checkCode 225 = .ok (.iadd, 1) := by decide +kernel
theorem dX11_checkCode_226 : decode cX11_checkCode 226 = .ok (.invokevirtual 105, 3) := by decide +kernel
theorem dX11_checkCode_229 : decode cX11_checkCode 229 = .ok (.aload_n 0, 1) := by decide +kernel
theorem dX11_checkCode_230 : decode cX11_checkCode 230 = .ok (.getfield 61, 3) := by decide +kernel
theorem dX11_checkCode_233 : decode cX11_checkCode 233 = .ok (.iload_n 1, 1) := by decide +kernel
theorem dX11_checkCode_234 : decode cX11_checkCode 234 = .ok (.iaload, 1) := by decide +kernel
theorem dX11_checkCode_235 : decode cX11_checkCode 235 = .ok (.if_icmp .ne 7, 3) := by decide +kernel
theorem dX11_checkCode_238 : decode cX11_checkCode 238 = .ok (.iconst 1, 1) := by decide +kernel
theorem dX11_checkCode_239 : decode cX11_checkCode 239 = .ok (.goto 4, 3) := by decide +kernel
theorem dX11_checkCode_242 : decode cX11_checkCode 242 = .ok (.iconst 0, 1) := by decide +kernel
theorem dX11_checkCode_243 : decode cX11_checkCode 243 = .ok (.invokevirtual 137, 3) := by decide +kernel
theorem dX11_checkCode_246 : decode cX11_checkCode 246 = .ok (.aload_n 0, 1) := by decide +kernel
theorem dX11_checkCode_247 : decode cX11_checkCode 247 = .ok (.iload_n 3, 1) := by decide +kernel
theorem dX11_checkCode_248 : decode cX11_checkCode 248 = .ok (.iconst 5, 1) := by decide +kernel
theorem dX11_checkCode_249 : decode cX11_checkCode 249 = .ok (.iadd, 1) := by decide +kernel
theorem dX11_checkCode_250 : decode cX11_checkCode 250 = .ok (.aload_n 0, 1) := by decide +kernel
theorem dX11_checkCode_251 : decode cX11_checkCode 251 = .ok (.iload_n 1, 1) := by decide +kernel
theorem dX11_checkCode_252 : decode cX11_checkCode 252 = .ok (.aload_n 0, 1) := by decide +kernel
theorem dX11_checkCode_253 : decode cX11_checkCode 253 = .ok (.iload_n 3, 1) := by decide +kernel
theorem dX11_checkCode_254 : decode cX11_checkCode 254 = .ok (.iconst 5, 1) := by decide +kernel
theorem dX11_checkCode_255 : decode cX11_checkCode 255 = .ok (.iadd, 1) := by decide +kernel
theorem dX11_checkCode_256 : decode cX11_checkCode 256 = .ok (.invokevirtual 105, 3) := by decide +kernel
theorem dX11_checkCode_259 : decode cX11_checkCode 259 = .ok (.invokevirtual 141, 3) := by decide +kernel
theorem dX11_checkCode_262 : decode cX11_checkCode 262 = .ok (.invokevirtual 137, 3) := by decide +kernel
theorem dX11_checkCode_265 : decode cX11_checkCode 265 = .ok (.iinc 2 1, 3) := by decide +kernel
theorem dX11_checkCode_268 : decode cX11_checkCode 268 = .ok (.goto (-125), 3) := by decide +kernel
theorem dX11_checkCode_271 : decode cX11_checkCode 271 = .ok (.return_, 1) := by decide +kernel
def wp_X11_checkCode : List Cond := .code yX11_checkCode cX11_checkCode 5 none :: (((([.fieldLink RX11 61 "SteadyMachineModel$Image" "codeSizes" "[I", .fieldLink RX11 64 "SteadyMachineModel$Image" "handlerCounts" "[I", .fieldLink RX11 67 "SteadyMachineModel$Image" "handlerAt" "[I", .fieldLink RX11 15 "SteadyMachineModel$Image" "image" "[I", .fieldLink RX11 125 "SteadyMachineModel$Image" "methods" "I", .fieldLink RX11 58 "SteadyMachineModel$Image" "codeAt" "[I", .fieldLink RX11 18 "SteadyMachineModel$Image" "begins" "[Z"] ++ (wsV RX11 137 RX11 yX11_note wp_X11_note)) ++ (wsV RX11 105 RX11 yX11_two wp_X11_two)) ++ (wsV RX11 141 RX11 yX11_isBegin wp_X11_isBegin)) ++ wsX110)
theorem wq_X11_checkCode : wp_X11_checkCode.all goodWord = true := wa_c rfl (wa_a (wa_a (wa_a (wa_a (by decide +kernel) (wa_V wq_X11_note)) (wa_V wq_X11_two)) (wa_V wq_X11_isBegin)) uq_X11)
theorem wt_X11_checkCode : GoodIn lw_tbl wp_X11_checkCode := wm_c (List.mem_of_getElem? (i := 1270) (by decide +kernel)) rfl (wm_a (wm_a (wm_a (wm_a (goodIn_r _ [1420, 1422, 1424, 1384, 1405, 1418, 1386] (by decide +kernel) (by decide +kernel)) (wm_a (goodIn_r _ [1263, 1265, 81, 148] (by decide +kernel) (by decide +kernel)) wt_X11_note)) (wm_a (goodIn_r _ [1244, 1246, 77, 148] (by decide +kernel) (by decide +kernel)) wt_X11_two)) (wm_a (goodIn_r _ [1271, 1273, 83, 148] (by decide +kernel) (by decide +kernel)) wt_X11_isBegin)) ut_X11)
theorem wg_X11_checkCode_X11_note_137 : GoodIn wp_X11_checkCode (wsV RX11 137 RX11 yX11_note wp_X11_note) := goodIn_sub (fun w h => List.mem_cons_of_mem _ (List.mem_append_left _ (List.mem_append_left _ (List.mem_append_left _ (List.mem_append_right _ h))))) (wa_V wq_X11_note)
theorem wg_X11_checkCode_X11_two_105 : GoodIn wp_X11_checkCode (wsV RX11 105 RX11 yX11_two wp_X11_two) := goodIn_sub (fun w h => List.mem_cons_of_mem _ (List.mem_append_left _ (List.mem_append_left _ (List.mem_append_right _ h)))) (wa_V wq_X11_two)
theorem wg_X11_checkCode_X11_isBegin_141 : GoodIn wp_X11_checkCode (wsV RX11 141 RX11 yX11_isBegin wp_X11_isBegin) := goodIn_sub (fun w h => List.mem_cons_of_mem _ (List.mem_append_left _ (List.mem_append_right _ h))) (wa_V wq_X11_isBegin)
theorem wi_X11_checkCode_X11 : ∀ w ∈ wsX110, w ∈ wp_X11_checkCode := fun w h => List.mem_cons_of_mem _ (List.mem_append_right _ h)
set_option maxHeartbeats 4000000 in
set_option maxRecDepth 100000 in
theorem c_X11_checkCode (l : Launch) (D : va_G) (sz t0 : Nat) (σ : sm_S) (α : sm_A) (p1 : Int32) (K : sm_S → Prop) (hF : mp_X11_checkCode σ p1 K) : Met l yX11_checkCode wp_X11_checkCode { frames := 1, cells := 0, slots := 0, locals := 22 } (sm_P sm_wM sm_tM 40 D sz t0 σ α [.ref (α.1 0), .int p1]) (va_Qv K (sm_B sm_wM D α) (sm_a α 40 sz)) 0 0 (sm_a α 40 sz) := by
  refine Met.ofW (cc := cX11_checkCode) (maxL := 5) (ret := none) (by decide) rfl ?_
  intro p e s m args below meth c s₁ B hml hv
  obtain ⟨rfl, hsz, hP, hK, hD0, hE⟩ := hv
  have hx := B.exec
  have hb := B.bytes
  have hr := B.returns
  have hts := atoms_spec (ws := wp_X11_checkCode) B.pre
  have hown : s.vm.findClass RX11 = some m.cls := findClass_of_methodNamed B.named
  have hlocks := B.notSynchronized
  subst hsz
  have hD : sm_D (sm_a α 40 s.heap.size) α 40 := hD0.own
  have hA : ∀ q : Nat, s.heap.size ≤ q → sm_a α 40 s.heap.size q := fun q h => Or.inr h
  generalize hAe : sm_a α 40 s.heap.size = A at hD hA hE ⊢
  have hS : va_S A s.heap s.heap [] := va_S.rf
  have in_X11 : ∀ w ∈ wsX110, w ∈ wp_X11_checkCode := wi_X11_checkCode_X11
  have k_0 := hts (.fieldLink RX11 61 "SteadyMachineModel$Image" "codeSizes" "[I") (by decide +kernel)
  have k_1 := hts (.fieldLink RX11 64 "SteadyMachineModel$Image" "handlerCounts" "[I") (by decide +kernel)
  have k_2 := hts (.fieldLink RX11 67 "SteadyMachineModel$Image" "handlerAt" "[I") (by decide +kernel)
  have k_3 := hts (.fieldLink RX11 15 "SteadyMachineModel$Image" "image" "[I") (by decide +kernel)
  have k_4 := hts (.fieldLink RX11 125 "SteadyMachineModel$Image" "methods" "I") (by decide +kernel)
  have k_5 := hts (.fieldLink RX11 58 "SteadyMachineModel$Image" "codeAt" "[I") (by decide +kernel)
  have k_6 := hts (.fieldLink RX11 18 "SteadyMachineModel$Image" "begins" "[Z") (by decide +kernel)
  have hl := lv_entry ([.ref (α.1 0), .int p1]) (n := 5) (Nat.le_of_ble_eq_true rfl)
  rw [lg_entry_eq]
  generalize (lg_sl ([.ref (α.1 0), .int p1]) ++ List.replicate (5 - (lg_sl ([.ref (α.1 0), .int p1])).length) Slot.unset).toArray = ls at hl ⊢
  have hl : lv_has ls 5 [(0, .ref (α.1 0)), (1, .int p1)] := hl
  have B243 : ∀ (L143 : sm_S → Int32 → Int32 → Prop) (hL143 : ∀ (σ : sm_S) (x1 : Int32) (x2 : Int32), L143 σ x1 x2 → sm_J p l e (headSpec wp_X11_checkCode { frames := 1, cells := 0, slots := 0, locals := 22 }).room s m ([.ref (α.1 0), .int p1] : List Value).toArray below meth c (MQ below (va_Qv K (sm_B sm_wM D α) A) ([.ref (α.1 0), .int p1] : List Value).toArray s 0 0 A) D A 5 (sm_wM σ α) 143 [(0, .ref (α.1 0)), (1, .int x1), (2, .int x2)] []) (σ : sm_S) (x1 : Int32) (x2 : Int32) (x3 : Int32) (y1 : Int32) (y2 : Int32), mp_X11_checkCode_243 L143 K σ x1 x2 x3 y1 y2 → sm_J p l e (headSpec wp_X11_checkCode { frames := 1, cells := 0, slots := 0, locals := 22 }).room s m ([.ref (α.1 0), .int p1] : List Value).toArray below meth c (MQ below (va_Qv K (sm_B sm_wM D α) A) ([.ref (α.1 0), .int p1] : List Value).toArray s 0 0 A) D A 5 (sm_wM σ α) 243 [(0, .ref (α.1 0)), (1, .int x1), (2, .int x2), (3, .int x3)] [.int y2, .int y1, .ref (α.1 0)] := by
    intro L143 hL143 σ x1 x2 x3 y1 y2 hF H locs ls hP hS hl
    unfold mp_X11_checkCode_243 at hF
    refine sm_vv (As := [.int y1, .int y2]) (rest := []) hP hK hD hE hS hA ⟨hx, hb, hml, hown, hts⟩ hl.1 (c_X11_note l D H.size t0 σ α y1 y2 _ hF) (cwV 2 hts wg_X11_checkCode_X11_note_137 rfl rfl rfl (by decide +kernel) ⟨Nat.le_of_ble_eq_true rfl, Nat.le_of_ble_eq_true rfl⟩) (va_recv hK hP (ci := 11) (q0 := 0) rfl (sm_gX11 σ α)) rfl rfl (Nat.le_of_ble_eq_true rfl) dX11_checkCode_243 ⟨Nat.zero_le _, Nat.zero_le _⟩ (fun σ1 H locs hF hP hS => ?_)
    refine lv_aload_n hx hb dX11_checkCode_246 rfl (lv_at hl 0 rfl) ?_
    refine lv_iload_n hx hb dX11_checkCode_247 rfl (lv_at hl 3 rfl) ?_
    refine lv_iconst (v := 5) hx hb dX11_checkCode_248 (by decide) ?_
    refine lv_iadd hx hb dX11_checkCode_249 ?_
    refine lv_aload_n hx hb dX11_checkCode_250 rfl (lv_at hl 0 rfl) ?_
    refine lv_iload_n hx hb dX11_checkCode_251 rfl (lv_at hl 1 rfl) ?_
    refine lv_aload_n hx hb dX11_checkCode_252 rfl (lv_at hl 0 rfl) ?_
    refine lv_iload_n hx hb dX11_checkCode_253 rfl (lv_at hl 3 rfl) ?_
    refine lv_iconst (v := 5) hx hb dX11_checkCode_254 (by decide) ?_
    refine lv_iadd hx hb dX11_checkCode_255 ?_
    refine sm_vi (As := [.int (x3 + 5)]) (rest := [.int x1, .ref (α.1 0), .int (x3 + 5), .ref (α.1 0)]) hP hK hD hE hS hA ⟨hx, hb, hml, hown, hts⟩ hl.1 (c_X11_two l D H.size t0 σ1 α (x3 + 5) _ hF) (cwV 1 hts wg_X11_checkCode_X11_two_105 rfl rfl rfl (by decide +kernel) ⟨Nat.le_of_ble_eq_true rfl, Nat.le_of_ble_eq_true rfl⟩) (va_recv hK hP (ci := 11) (q0 := 0) rfl (sm_gX11 σ1 α)) rfl rfl (Nat.le_of_ble_eq_true rfl) dX11_checkCode_256 ⟨Nat.zero_le _, Nat.zero_le _⟩ (fun r3 σ2 H locs hF hP hS => ?_)
    refine sm_vi (As := [.int x1, .int r3]) (rest := [.int (x3 + 5), .ref (α.1 0)]) hP hK hD hE hS hA ⟨hx, hb, hml, hown, hts⟩ hl.1 (c_X11_isBegin l D H.size t0 σ2 α x1 r3 _ hF) (cwV 2 hts wg_X11_checkCode_X11_isBegin_141 rfl rfl rfl (by decide +kernel) ⟨Nat.le_of_ble_eq_true rfl, Nat.le_of_ble_eq_true rfl⟩) (va_recv hK hP (ci := 11) (q0 := 0) rfl (sm_gX11 σ2 α)) rfl rfl (Nat.le_of_ble_eq_true rfl) dX11_checkCode_259 ⟨Nat.zero_le _, Nat.zero_le _⟩ (fun r5 σ4 H locs hF hP hS => ?_)
    refine sm_vv (As := [.int (x3 + 5), .int r5]) (rest := []) hP hK hD hE hS hA ⟨hx, hb, hml, hown, hts⟩ hl.1 (c_X11_note l D H.size t0 σ4 α (x3 + 5) r5 _ hF) (cwV 2 hts wg_X11_checkCode_X11_note_137 rfl rfl rfl (by decide +kernel) ⟨Nat.le_of_ble_eq_true rfl, Nat.le_of_ble_eq_true rfl⟩) (va_recv hK hP (ci := 11) (q0 := 0) rfl (sm_gX11 σ4 α)) rfl rfl (Nat.le_of_ble_eq_true rfl) dX11_checkCode_262 ⟨Nat.zero_le _, Nat.zero_le _⟩ (fun σ6 H locs hF hP hS => ?_)
    obtain ⟨v7, ev7⟩ : ∃ y : Int32, y = x2 + 1 := ⟨_, rfl⟩
    replace hF := hF v7 ev7
    refine lv_iinc (v := v7) (lv' := [(2, .int v7), (0, .ref (α.1 0)), (1, .int x1), (3, .int x3)]) hx hb dX11_checkCode_265 hl (k := 2) rfl (by rw [ev7]; rfl) (by decide) rfl (fun ls hl => ?_)
    refine lv_goto (tgt := 143) hx hb dX11_checkCode_268 (by decide) ?_
    exact hL143 σ6 x1 v7 hF H locs ls hP hS (lv_sub hl [1, 2, 0] rfl)
  have B238 : ∀ (L143 : sm_S → Int32 → Int32 → Prop) (hL143 : ∀ (σ : sm_S) (x1 : Int32) (x2 : Int32), L143 σ x1 x2 → sm_J p l e (headSpec wp_X11_checkCode { frames := 1, cells := 0, slots := 0, locals := 22 }).room s m ([.ref (α.1 0), .int p1] : List Value).toArray below meth c (MQ below (va_Qv K (sm_B sm_wM D α) A) ([.ref (α.1 0), .int p1] : List Value).toArray s 0 0 A) D A 5 (sm_wM σ α) 143 [(0, .ref (α.1 0)), (1, .int x1), (2, .int x2)] []) (σ : sm_S) (x1 : Int32) (x2 : Int32) (x3 : Int32) (y1 : Int32), mp_X11_checkCode_238 L143 K σ x1 x2 x3 y1 → sm_J p l e (headSpec wp_X11_checkCode { frames := 1, cells := 0, slots := 0, locals := 22 }).room s m ([.ref (α.1 0), .int p1] : List Value).toArray below meth c (MQ below (va_Qv K (sm_B sm_wM D α) A) ([.ref (α.1 0), .int p1] : List Value).toArray s 0 0 A) D A 5 (sm_wM σ α) 238 [(0, .ref (α.1 0)), (1, .int x1), (2, .int x2), (3, .int x3)] [.int y1, .ref (α.1 0)] := by
    intro L143 hL143 σ x1 x2 x3 y1 hF H locs ls hP hS hl
    unfold mp_X11_checkCode_238 at hF
    refine lv_iconst (v := 1) hx hb dX11_checkCode_238 (by decide) ?_
    refine lv_goto (tgt := 243) hx hb dX11_checkCode_239 (by decide) ?_
    exact B243 L143 hL143 σ x1 x2 x3 y1 1 hF H locs ls hP hS (lv_sub hl [0, 1, 2, 3] rfl)
  have B200 : ∀ (L143 : sm_S → Int32 → Int32 → Prop) (hL143 : ∀ (σ : sm_S) (x1 : Int32) (x2 : Int32), L143 σ x1 x2 → sm_J p l e (headSpec wp_X11_checkCode { frames := 1, cells := 0, slots := 0, locals := 22 }).room s m ([.ref (α.1 0), .int p1] : List Value).toArray below meth c (MQ below (va_Qv K (sm_B sm_wM D α) A) ([.ref (α.1 0), .int p1] : List Value).toArray s 0 0 A) D A 5 (sm_wM σ α) 143 [(0, .ref (α.1 0)), (1, .int x1), (2, .int x2)] []) (σ : sm_S) (x1 : Int32) (x2 : Int32) (x3 : Int32) (y1 : Int32) (y2 : Int32), mp_X11_checkCode_200 L143 K σ x1 x2 x3 y1 y2 → sm_J p l e (headSpec wp_X11_checkCode { frames := 1, cells := 0, slots := 0, locals := 22 }).room s m ([.ref (α.1 0), .int p1] : List Value).toArray below meth c (MQ below (va_Qv K (sm_B sm_wM D α) A) ([.ref (α.1 0), .int p1] : List Value).toArray s 0 0 A) D A 5 (sm_wM σ α) 200 [(0, .ref (α.1 0)), (1, .int x1), (2, .int x2), (3, .int x3)] [.int y2, .int y1, .ref (α.1 0)] := by
    intro L143 hL143 σ x1 x2 x3 y1 y2 hF H locs ls hP hS hl
    unfold mp_X11_checkCode_200 at hF
    refine sm_vv (As := [.int y1, .int y2]) (rest := []) hP hK hD hE hS hA ⟨hx, hb, hml, hown, hts⟩ hl.1 (c_X11_note l D H.size t0 σ α y1 y2 _ hF) (cwV 2 hts wg_X11_checkCode_X11_note_137 rfl rfl rfl (by decide +kernel) ⟨Nat.le_of_ble_eq_true rfl, Nat.le_of_ble_eq_true rfl⟩) (va_recv hK hP (ci := 11) (q0 := 0) rfl (sm_gX11 σ α)) rfl rfl (Nat.le_of_ble_eq_true rfl) dX11_checkCode_200 ⟨Nat.zero_le _, Nat.zero_le _⟩ (fun σ8 H locs hF hP hS => ?_)
    refine lv_aload_n hx hb dX11_checkCode_203 rfl (lv_at hl 0 rfl) ?_
    refine lv_iload_n hx hb dX11_checkCode_204 rfl (lv_at hl 3 rfl) ?_
    refine lv_iconst (v := 2) hx hb dX11_checkCode_205 (by decide) ?_
    refine lv_iadd hx hb dX11_checkCode_206 ?_
    refine lv_aload_n hx hb dX11_checkCode_207 rfl (lv_at hl 0 rfl) ?_
    refine lv_iload_n hx hb dX11_checkCode_208 rfl (lv_at hl 1 rfl) ?_
    refine lv_aload_n hx hb dX11_checkCode_209 rfl (lv_at hl 0 rfl) ?_
    refine lv_iload_n hx hb dX11_checkCode_210 rfl (lv_at hl 3 rfl) ?_
    refine lv_iconst (v := 2) hx hb dX11_checkCode_211 (by decide) ?_
    refine lv_iadd hx hb dX11_checkCode_212 ?_
    refine sm_vi (As := [.int (x3 + 2)]) (rest := [.int x1, .ref (α.1 0), .int (x3 + 2), .ref (α.1 0)]) hP hK hD hE hS hA ⟨hx, hb, hml, hown, hts⟩ hl.1 (c_X11_two l D H.size t0 σ8 α (x3 + 2) _ hF) (cwV 1 hts wg_X11_checkCode_X11_two_105 rfl rfl rfl (by decide +kernel) ⟨Nat.le_of_ble_eq_true rfl, Nat.le_of_ble_eq_true rfl⟩) (va_recv hK hP (ci := 11) (q0 := 0) rfl (sm_gX11 σ8 α)) rfl rfl (Nat.le_of_ble_eq_true rfl) dX11_checkCode_213 ⟨Nat.zero_le _, Nat.zero_le _⟩ (fun r10 σ9 H locs hF hP hS => ?_)
    refine sm_vi (As := [.int x1, .int r10]) (rest := [.int (x3 + 2), .ref (α.1 0)]) hP hK hD hE hS hA ⟨hx, hb, hml, hown, hts⟩ hl.1 (c_X11_isBegin l D H.size t0 σ9 α x1 r10 _ hF) (cwV 2 hts wg_X11_checkCode_X11_isBegin_141 rfl rfl rfl (by decide +kernel) ⟨Nat.le_of_ble_eq_true rfl, Nat.le_of_ble_eq_true rfl⟩) (va_recv hK hP (ci := 11) (q0 := 0) rfl (sm_gX11 σ9 α)) rfl rfl (Nat.le_of_ble_eq_true rfl) dX11_checkCode_216 ⟨Nat.zero_le _, Nat.zero_le _⟩ (fun r12 σ11 H locs hF hP hS => ?_)
    refine lv_if_ne (tgt := 238) hx hb dX11_checkCode_219 (by decide) (fun h13 => ?_) (fun h13 => ?_)
    · replace hF := hF.1 h13
      exact B238 L143 hL143 σ11 x1 x2 x3 (x3 + 2) hF H locs ls hP hS (lv_sub hl [0, 1, 2, 3] rfl)
    · replace hF := hF.2 h13
      refine lv_aload_n hx hb dX11_checkCode_222 rfl (lv_at hl 0 rfl) ?_
      refine lv_iload_n hx hb dX11_checkCode_223 rfl (lv_at hl 3 rfl) ?_
      refine lv_iconst (v := 2) hx hb dX11_checkCode_224 (by decide) ?_
      refine lv_iadd hx hb dX11_checkCode_225 ?_
      refine sm_vi (As := [.int (x3 + 2)]) (rest := [.int (x3 + 2), .ref (α.1 0)]) hP hK hD hE hS hA ⟨hx, hb, hml, hown, hts⟩ hl.1 (c_X11_two l D H.size t0 σ11 α (x3 + 2) _ hF) (cwV 1 hts wg_X11_checkCode_X11_two_105 rfl rfl rfl (by decide +kernel) ⟨Nat.le_of_ble_eq_true rfl, Nat.le_of_ble_eq_true rfl⟩) (va_recv hK hP (ci := 11) (q0 := 0) rfl (sm_gX11 σ11 α)) rfl rfl (Nat.le_of_ble_eq_true rfl) dX11_checkCode_226 ⟨Nat.zero_le _, Nat.zero_le _⟩ (fun r15 σ14 H locs hF hP hS => ?_)
      refine lv_aload_n hx hb dX11_checkCode_229 rfl (lv_at hl 0 rfl) ?_
      refine va_get (D := D) (ci := 11) (v := .ref (α.1 18)) (C := RX11) (T := TX11) (N := 28) hx hb hts in_X11 hown hK hP 0 (sm_gX11 σ14 α) rfl 23 (by decide) k_0 (fun _ h9 => h9) rfl dX11_checkCode_230 ?_
      refine lv_iload_n hx hb dX11_checkCode_233 rfl (lv_at hl 1 rfl) ?_
      obtain ⟨h16, hF⟩ := hF
      refine va_iald (n := (σ14.2.2.1 18)) (f := (σ14.2.2.2.1 18)) hx hb hK hP 18 16 (sm_aM18 σ14 α) (sm_yM18 α) h16 dX11_checkCode_234 ?_
      refine lv_icmp_ne (tgt := 242) hx hb dX11_checkCode_235 (by decide) (fun h17 => ?_) (fun h17 => ?_)
      · replace hF := hF.1 h17
        refine lv_iconst (v := 0) hx hb dX11_checkCode_242 (by decide) ?_
        exact B243 L143 hL143 σ14 x1 x2 x3 (x3 + 2) 0 hF H locs ls hP hS (lv_sub hl [0, 1, 2, 3] rfl)
      · replace hF := hF.2 h17
        exact B238 L143 hL143 σ14 x1 x2 x3 (x3 + 2) hF H locs ls hP hS (lv_sub hl [0, 1, 2, 3] rfl)
  have B199 : ∀ (L143 : sm_S → Int32 → Int32 → Prop) (hL143 : ∀ (σ : sm_S) (x1 : Int32) (x2 : Int32), L143 σ x1 x2 → sm_J p l e (headSpec wp_X11_checkCode { frames := 1, cells := 0, slots := 0, locals := 22 }).room s m ([.ref (α.1 0), .int p1] : List Value).toArray below meth c (MQ below (va_Qv K (sm_B sm_wM D α) A) ([.ref (α.1 0), .int p1] : List Value).toArray s 0 0 A) D A 5 (sm_wM σ α) 143 [(0, .ref (α.1 0)), (1, .int x1), (2, .int x2)] []) (σ : sm_S) (x1 : Int32) (x2 : Int32) (x3 : Int32) (y1 : Int32), mp_X11_checkCode_199 L143 K σ x1 x2 x3 y1 → sm_J p l e (headSpec wp_X11_checkCode { frames := 1, cells := 0, slots := 0, locals := 22 }).room s m ([.ref (α.1 0), .int p1] : List Value).toArray below meth c (MQ below (va_Qv K (sm_B sm_wM D α) A) ([.ref (α.1 0), .int p1] : List Value).toArray s 0 0 A) D A 5 (sm_wM σ α) 199 [(0, .ref (α.1 0)), (1, .int x1), (2, .int x2), (3, .int x3)] [.int y1, .ref (α.1 0)] := by
    intro L143 hL143 σ x1 x2 x3 y1 hF H locs ls hP hS hl
    unfold mp_X11_checkCode_199 at hF
    refine lv_iconst (v := 0) hx hb dX11_checkCode_199 (by decide) ?_
    exact B200 L143 hL143 σ x1 x2 x3 y1 0 hF H locs ls hP hS (lv_sub hl [0, 1, 2, 3] rfl)
  have B143 : ∀ (n : Nat) (σ : sm_S) (x1 : Int32) (x2 : Int32), mp_X11_checkCode_143 K n σ x1 x2 → sm_J p l e (headSpec wp_X11_checkCode { frames := 1, cells := 0, slots := 0, locals := 22 }).room s m ([.ref (α.1 0), .int p1] : List Value).toArray below meth c (MQ below (va_Qv K (sm_B sm_wM D α) A) ([.ref (α.1 0), .int p1] : List Value).toArray s 0 0 A) D A 5 (sm_wM σ α) 143 [(0, .ref (α.1 0)), (1, .int x1), (2, .int x2)] [] := by
    intro n143
    induction n143 with
    | zero =>
      intro σ x1 x2 hF
      exact hF.elim
    | succ n143 ih143 =>
      intro σ x1 x2 hF H locs ls hP hS hl
      unfold mp_X11_checkCode_143 at hF
      refine lv_iload_n hx hb dX11_checkCode_143 rfl (lv_at hl 2 rfl) ?_
      refine lv_aload_n hx hb dX11_checkCode_144 rfl (lv_at hl 0 rfl) ?_
      refine va_get (D := D) (ci := 11) (v := .ref (α.1 19)) (C := RX11) (T := TX11) (N := 28) hx hb hts in_X11 hown hK hP 0 (sm_gX11 σ α) rfl 24 (by decide) k_1 (fun _ h9 => h9) rfl dX11_checkCode_145 ?_
      refine lv_iload_n hx hb dX11_checkCode_148 rfl (lv_at hl 1 rfl) ?_
      obtain ⟨h18, hF⟩ := hF
      refine va_iald (n := (σ.2.2.1 19)) (f := (σ.2.2.2.1 19)) hx hb hK hP 19 17 (sm_aM19 σ α) (sm_yM19 α) h18 dX11_checkCode_149 ?_
      refine lv_icmp_ge (tgt := 271) hx hb dX11_checkCode_150 (by decide) (fun h19 => ?_) (fun h19 => ?_)
      · replace hF := hF.1 h19
        exact W.vret hx hb hr (fun t ht hW => ⟨⟨σ, rfl, hF, (by unfold sm_B; rw [ht]; exact hP)⟩, hS.F ht⟩) hS.2.2 dX11_checkCode_271
      · replace hF := hF.2 h19
        refine lv_aload_n hx hb dX11_checkCode_153 rfl (lv_at hl 0 rfl) ?_
        refine va_get (D := D) (ci := 11) (v := .ref (α.1 20)) (C := RX11) (T := TX11) (N := 28) hx hb hts in_X11 hown hK hP 0 (sm_gX11 σ α) rfl 25 (by decide) k_2 (fun _ h9 => h9) rfl dX11_checkCode_154 ?_
        refine lv_iload_n hx hb dX11_checkCode_157 rfl (lv_at hl 1 rfl) ?_
        obtain ⟨h20, hF⟩ := hF
        refine va_iald (n := (σ.2.2.1 20)) (f := (σ.2.2.2.1 20)) hx hb hK hP 20 18 (sm_aM20 σ α) (sm_yM20 α) h20 dX11_checkCode_158 ?_
        refine lv_bipush (v := 7) hx hb dX11_checkCode_159 (by decide) ?_
        refine lv_iload_n hx hb dX11_checkCode_161 rfl (lv_at hl 2 rfl) ?_
        refine lv_imul hx hb dX11_checkCode_162 ?_
        refine lv_iadd hx hb dX11_checkCode_163 ?_
        refine lv_topi (fun v21 ev21 => ?_)
        replace hF := hF v21 ev21
        refine lv_istore_n (lv' := [(3, .int v21), (0, .ref (α.1 0)), (1, .int x1), (2, .int x2)]) hx hb dX11_checkCode_164 rfl hl (by decide) rfl (fun ls hl => ?_)
        refine lv_aload_n hx hb dX11_checkCode_165 rfl (lv_at hl 1 rfl) ?_
        refine lv_iload_n hx hb dX11_checkCode_166 rfl (lv_at hl 0 rfl) ?_
        refine lv_aload_n hx hb dX11_checkCode_167 rfl (lv_at hl 1 rfl) ?_
        refine lv_iload_n hx hb dX11_checkCode_168 rfl (lv_at hl 2 rfl) ?_
        refine lv_aload_n hx hb dX11_checkCode_169 rfl (lv_at hl 1 rfl) ?_
        refine lv_iload_n hx hb dX11_checkCode_170 rfl (lv_at hl 0 rfl) ?_
        refine sm_vi (As := [.int v21]) (rest := [.int x1, .ref (α.1 0), .int v21, .ref (α.1 0)]) hP hK hD hE hS hA ⟨hx, hb, hml, hown, hts⟩ hl.1 (c_X11_two l D H.size t0 σ α v21 _ hF) (cwV 1 hts wg_X11_checkCode_X11_two_105 rfl rfl rfl (by decide +kernel) ⟨Nat.le_of_ble_eq_true rfl, Nat.le_of_ble_eq_true rfl⟩) (va_recv hK hP (ci := 11) (q0 := 0) rfl (sm_gX11 σ α)) rfl rfl (Nat.le_of_ble_eq_true rfl) dX11_checkCode_171 ⟨Nat.zero_le _, Nat.zero_le _⟩ (fun r23 σ22 H locs hF hP hS => ?_)
        refine sm_vi (As := [.int x1, .int r23]) (rest := [.int v21, .ref (α.1 0)]) hP hK hD hE hS hA ⟨hx, hb, hml, hown, hts⟩ hl.1 (c_X11_isBegin l D H.size t0 σ22 α x1 r23 _ hF) (cwV 2 hts wg_X11_checkCode_X11_isBegin_141 rfl rfl rfl (by decide +kernel) ⟨Nat.le_of_ble_eq_true rfl, Nat.le_of_ble_eq_true rfl⟩) (va_recv hK hP (ci := 11) (q0 := 0) rfl (sm_gX11 σ22 α)) rfl rfl (Nat.le_of_ble_eq_true rfl) dX11_checkCode_174 ⟨Nat.zero_le _, Nat.zero_le _⟩ (fun r25 σ24 H locs hF hP hS => ?_)
        refine lv_if_eq (tgt := 199) hx hb dX11_checkCode_177 (by decide) (fun h26 => ?_) (fun h26 => ?_)
        · replace hF := hF.1 h26
          exact B199 (mp_X11_checkCode_143 K n143) ih143 σ24 x1 x2 v21 v21 hF H locs ls hP hS (lv_sub hl [1, 2, 3, 0] rfl)
        · replace hF := hF.2 h26
          refine lv_aload_n hx hb dX11_checkCode_180 rfl (lv_at hl 1 rfl) ?_
          refine lv_iload_n hx hb dX11_checkCode_181 rfl (lv_at hl 0 rfl) ?_
          refine sm_vi (As := [.int v21]) (rest := [.int v21, .ref (α.1 0)]) hP hK hD hE hS hA ⟨hx, hb, hml, hown, hts⟩ hl.1 (c_X11_two l D H.size t0 σ24 α v21 _ hF) (cwV 1 hts wg_X11_checkCode_X11_two_105 rfl rfl rfl (by decide +kernel) ⟨Nat.le_of_ble_eq_true rfl, Nat.le_of_ble_eq_true rfl⟩) (va_recv hK hP (ci := 11) (q0 := 0) rfl (sm_gX11 σ24 α)) rfl rfl (Nat.le_of_ble_eq_true rfl) dX11_checkCode_182 ⟨Nat.zero_le _, Nat.zero_le _⟩ (fun r28 σ27 H locs hF hP hS => ?_)
          refine lv_aload_n hx hb dX11_checkCode_185 rfl (lv_at hl 1 rfl) ?_
          refine lv_iload_n hx hb dX11_checkCode_186 rfl (lv_at hl 0 rfl) ?_
          refine lv_iconst (v := 2) hx hb dX11_checkCode_187 (by decide) ?_
          refine lv_iadd hx hb dX11_checkCode_188 ?_
          refine sm_vi (As := [.int (v21 + 2)]) (rest := [.int r28, .int v21, .ref (α.1 0)]) hP hK hD hE hS hA ⟨hx, hb, hml, hown, hts⟩ hl.1 (c_X11_two l D H.size t0 σ27 α (v21 + 2) _ hF) (cwV 1 hts wg_X11_checkCode_X11_two_105 rfl rfl rfl (by decide +kernel) ⟨Nat.le_of_ble_eq_true rfl, Nat.le_of_ble_eq_true rfl⟩) (va_recv hK hP (ci := 11) (q0 := 0) rfl (sm_gX11 σ27 α)) rfl rfl (Nat.le_of_ble_eq_true rfl) dX11_checkCode_189 ⟨Nat.zero_le _, Nat.zero_le _⟩ (fun r30 σ29 H locs hF hP hS => ?_)
          refine lv_icmp_ge (tgt := 199) hx hb dX11_checkCode_192 (by decide) (fun h31 => ?_) (fun h31 => ?_)
          · replace hF := hF.1 h31
            exact B199 (mp_X11_checkCode_143 K n143) ih143 σ29 x1 x2 v21 v21 hF H locs ls hP hS (lv_sub hl [1, 2, 3, 0] rfl)
          · replace hF := hF.2 h31
            refine lv_iconst (v := 1) hx hb dX11_checkCode_195 (by decide) ?_
            refine lv_goto (tgt := 200) hx hb dX11_checkCode_196 (by decide) ?_
            exact B200 (mp_X11_checkCode_143 K n143) ih143 σ29 x1 x2 v21 v21 1 hF H locs ls hP hS (lv_sub hl [1, 2, 3, 0] rfl)
  have B135 : ∀ (L7 : sm_S → Int32 → Int32 → Prop) (hL7 : ∀ (σ : sm_S) (x1 : Int32) (x2 : Int32), L7 σ x1 x2 → sm_J p l e (headSpec wp_X11_checkCode { frames := 1, cells := 0, slots := 0, locals := 22 }).room s m ([.ref (α.1 0), .int p1] : List Value).toArray below meth c (MQ below (va_Qv K (sm_B sm_wM D α) A) ([.ref (α.1 0), .int p1] : List Value).toArray s 0 0 A) D A 5 (sm_wM σ α) 7 [(0, .ref (α.1 0)), (1, .int x1), (2, .int x2)] []) (σ : sm_S) (x1 : Int32) (x2 : Int32), mp_X11_checkCode_135 L7 K σ x1 x2 → sm_J p l e (headSpec wp_X11_checkCode { frames := 1, cells := 0, slots := 0, locals := 22 }).room s m ([.ref (α.1 0), .int p1] : List Value).toArray below meth c (MQ below (va_Qv K (sm_B sm_wM D α) A) ([.ref (α.1 0), .int p1] : List Value).toArray s 0 0 A) D A 5 (sm_wM σ α) 135 [(0, .ref (α.1 0)), (1, .int x1), (2, .int x2)] [] := by
    intro L7 hL7 σ x1 x2 hF H locs ls hP hS hl
    unfold mp_X11_checkCode_135 at hF
    obtain ⟨v32, ev32⟩ : ∃ y : Int32, y = x2 + 1 := ⟨_, rfl⟩
    replace hF := hF v32 ev32
    refine lv_iinc (v := v32) (lv' := [(2, .int v32), (0, .ref (α.1 0)), (1, .int x1)]) hx hb dX11_checkCode_135 hl (k := 2) rfl (by rw [ev32]; rfl) (by decide) rfl (fun ls hl => ?_)
    refine lv_goto (tgt := 7) hx hb dX11_checkCode_138 (by decide) ?_
    exact hL7 σ x1 v32 hF H locs ls hP hS (lv_sub hl [1, 2, 0] rfl)
  have B132 : ∀ (L7 : sm_S → Int32 → Int32 → Prop) (hL7 : ∀ (σ : sm_S) (x1 : Int32) (x2 : Int32), L7 σ x1 x2 → sm_J p l e (headSpec wp_X11_checkCode { frames := 1, cells := 0, slots := 0, locals := 22 }).room s m ([.ref (α.1 0), .int p1] : List Value).toArray below meth c (MQ below (va_Qv K (sm_B sm_wM D α) A) ([.ref (α.1 0), .int p1] : List Value).toArray s 0 0 A) D A 5 (sm_wM σ α) 7 [(0, .ref (α.1 0)), (1, .int x1), (2, .int x2)] []) (σ : sm_S) (x1 : Int32) (x2 : Int32) (y1 : Int32) (y2 : Int32), mp_X11_checkCode_132 L7 K σ x1 x2 y1 y2 → sm_J p l e (headSpec wp_X11_checkCode { frames := 1, cells := 0, slots := 0, locals := 22 }).room s m ([.ref (α.1 0), .int p1] : List Value).toArray below meth c (MQ below (va_Qv K (sm_B sm_wM D α) A) ([.ref (α.1 0), .int p1] : List Value).toArray s 0 0 A) D A 5 (sm_wM σ α) 132 [(0, .ref (α.1 0)), (1, .int x1), (2, .int x2)] [.int y2, .int y1, .ref (α.1 0)] := by
    intro L7 hL7 σ x1 x2 y1 y2 hF H locs ls hP hS hl
    unfold mp_X11_checkCode_132 at hF
    refine sm_vv (As := [.int y1, .int y2]) (rest := []) hP hK hD hE hS hA ⟨hx, hb, hml, hown, hts⟩ hl.1 (c_X11_note l D H.size t0 σ α y1 y2 _ hF) (cwV 2 hts wg_X11_checkCode_X11_note_137 rfl rfl rfl (by decide +kernel) ⟨Nat.le_of_ble_eq_true rfl, Nat.le_of_ble_eq_true rfl⟩) (va_recv hK hP (ci := 11) (q0 := 0) rfl (sm_gX11 σ α)) rfl rfl (Nat.le_of_ble_eq_true rfl) dX11_checkCode_132 ⟨Nat.zero_le _, Nat.zero_le _⟩ (fun σ33 H locs hF hP hS => ?_)
    exact B135 L7 hL7 σ33 x1 x2 hF H locs ls hP hS (lv_sub hl [0, 1, 2] rfl)
  have B102 : ∀ (L7 : sm_S → Int32 → Int32 → Prop) (hL7 : ∀ (σ : sm_S) (x1 : Int32) (x2 : Int32), L7 σ x1 x2 → sm_J p l e (headSpec wp_X11_checkCode { frames := 1, cells := 0, slots := 0, locals := 22 }).room s m ([.ref (α.1 0), .int p1] : List Value).toArray below meth c (MQ below (va_Qv K (sm_B sm_wM D α) A) ([.ref (α.1 0), .int p1] : List Value).toArray s 0 0 A) D A 5 (sm_wM σ α) 7 [(0, .ref (α.1 0)), (1, .int x1), (2, .int x2)] []) (σ : sm_S) (x1 : Int32) (x2 : Int32) (x3 : Int32), mp_X11_checkCode_102 L7 K σ x1 x2 x3 → sm_J p l e (headSpec wp_X11_checkCode { frames := 1, cells := 0, slots := 0, locals := 22 }).room s m ([.ref (α.1 0), .int p1] : List Value).toArray below meth c (MQ below (va_Qv K (sm_B sm_wM D α) A) ([.ref (α.1 0), .int p1] : List Value).toArray s 0 0 A) D A 5 (sm_wM σ α) 102 [(0, .ref (α.1 0)), (1, .int x1), (2, .int x2), (3, .int x3)] [] := by
    intro L7 hL7 σ x1 x2 x3 hF H locs ls hP hS hl
    unfold mp_X11_checkCode_102 at hF
    refine lv_iload_n hx hb dX11_checkCode_102 rfl (lv_at hl 3 rfl) ?_
    refine lv_bipush (v := 35) hx hb dX11_checkCode_103 (by decide) ?_
    refine lv_icmp_ne (tgt := 135) hx hb dX11_checkCode_105 (by decide) (fun h34 => ?_) (fun h34 => ?_)
    · replace hF := hF.1 h34
      exact B135 L7 hL7 σ x1 x2 hF H locs ls hP hS (lv_sub hl [0, 1, 2] rfl)
    · replace hF := hF.2 h34
      refine lv_aload_n hx hb dX11_checkCode_108 rfl (lv_at hl 0 rfl) ?_
      refine lv_iload_n hx hb dX11_checkCode_109 rfl (lv_at hl 2 rfl) ?_
      refine lv_iconst (v := 1) hx hb dX11_checkCode_110 (by decide) ?_
      refine lv_iadd hx hb dX11_checkCode_111 ?_
      refine lv_aload_n hx hb dX11_checkCode_112 rfl (lv_at hl 0 rfl) ?_
      refine va_get (D := D) (ci := 11) (v := .ref (α.1 3)) (C := RX11) (T := TX11) (N := 28) hx hb hts in_X11 hown hK hP 0 (sm_gX11 σ α) rfl 2 (by decide) k_3 (fun _ h9 => h9) rfl dX11_checkCode_113 ?_
      refine lv_iload_n hx hb dX11_checkCode_116 rfl (lv_at hl 2 rfl) ?_
      refine lv_iconst (v := 1) hx hb dX11_checkCode_117 (by decide) ?_
      refine lv_iadd hx hb dX11_checkCode_118 ?_
      obtain ⟨h35, hF⟩ := hF
      refine va_iald (n := (σ.2.2.1 3)) (f := (σ.2.2.2.1 3)) hx hb hK hP 3 1 (sm_aM3 σ α) (sm_yM3 α) h35 dX11_checkCode_119 ?_
      refine lv_aload_n hx hb dX11_checkCode_120 rfl (lv_at hl 0 rfl) ?_
      refine va_get (D := D) (ci := 11) (v := .int (σ.1 6)) (C := RX11) (T := TX11) (N := 28) hx hb hts in_X11 hown hK hP 0 (sm_gX11 σ α) rfl 15 (by decide) k_4 (fun _ h9 => h9) rfl dX11_checkCode_121 ?_
      refine lv_icmp_ge (tgt := 131) hx hb dX11_checkCode_124 (by decide) (fun h36 => ?_) (fun h36 => ?_)
      · replace hF := hF.1 h36
        refine lv_iconst (v := 0) hx hb dX11_checkCode_131 (by decide) ?_
        exact B132 L7 hL7 σ x1 x2 (x2 + 1) 0 hF H locs ls hP hS (lv_sub hl [0, 1, 2] rfl)
      · replace hF := hF.2 h36
        refine lv_iconst (v := 1) hx hb dX11_checkCode_127 (by decide) ?_
        refine lv_goto (tgt := 132) hx hb dX11_checkCode_128 (by decide) ?_
        exact B132 L7 hL7 σ x1 x2 (x2 + 1) 1 hF H locs ls hP hS (lv_sub hl [0, 1, 2] rfl)
  have B77 : ∀ (L7 : sm_S → Int32 → Int32 → Prop) (hL7 : ∀ (σ : sm_S) (x1 : Int32) (x2 : Int32), L7 σ x1 x2 → sm_J p l e (headSpec wp_X11_checkCode { frames := 1, cells := 0, slots := 0, locals := 22 }).room s m ([.ref (α.1 0), .int p1] : List Value).toArray below meth c (MQ below (va_Qv K (sm_B sm_wM D α) A) ([.ref (α.1 0), .int p1] : List Value).toArray s 0 0 A) D A 5 (sm_wM σ α) 7 [(0, .ref (α.1 0)), (1, .int x1), (2, .int x2)] []) (σ : sm_S) (x1 : Int32) (x2 : Int32) (x3 : Int32) (y0 : Int32), mp_X11_checkCode_77 L7 K σ x1 x2 x3 y0 → sm_J p l e (headSpec wp_X11_checkCode { frames := 1, cells := 0, slots := 0, locals := 22 }).room s m ([.ref (α.1 0), .int p1] : List Value).toArray below meth c (MQ below (va_Qv K (sm_B sm_wM D α) A) ([.ref (α.1 0), .int p1] : List Value).toArray s 0 0 A) D A 5 (sm_wM σ α) 77 [(0, .ref (α.1 0)), (1, .int x1), (2, .int x2), (3, .int x3)] [.int y0] := by
    intro L7 hL7 σ x1 x2 x3 y0 hF H locs ls hP hS hl
    unfold mp_X11_checkCode_77 at hF
    refine lv_istore (lv' := [(4, .int y0), (0, .ref (α.1 0)), (1, .int x1), (2, .int x2), (3, .int x3)]) hx hb dX11_checkCode_77 hl (by decide) rfl (fun ls hl => ?_)
    refine lv_iload hx hb dX11_checkCode_79 (lv_at hl 0 rfl) ?_
    refine lv_iconst (v := -1) hx hb dX11_checkCode_81 (by decide) ?_
    refine lv_icmp_eq (tgt := 102) hx hb dX11_checkCode_82 (by decide) (fun h37 => ?_) (fun h37 => ?_)
    · replace hF := hF.1 h37
      exact B102 L7 hL7 σ x1 x2 x3 hF H locs ls hP hS (lv_sub hl [1, 2, 3, 4] rfl)
    · replace hF := hF.2 h37
      refine lv_aload_n hx hb dX11_checkCode_85 rfl (lv_at hl 1 rfl) ?_
      refine lv_iload hx hb dX11_checkCode_86 (lv_at hl 0 rfl) ?_
      refine lv_aload_n hx hb dX11_checkCode_88 rfl (lv_at hl 1 rfl) ?_
      refine lv_iload_n hx hb dX11_checkCode_89 rfl (lv_at hl 2 rfl) ?_
      refine lv_aload_n hx hb dX11_checkCode_90 rfl (lv_at hl 1 rfl) ?_
      refine lv_iload hx hb dX11_checkCode_91 (lv_at hl 0 rfl) ?_
      refine sm_vi (As := [.int y0]) (rest := [.int x1, .ref (α.1 0), .int y0, .ref (α.1 0)]) hP hK hD hE hS hA ⟨hx, hb, hml, hown, hts⟩ hl.1 (c_X11_two l D H.size t0 σ α y0 _ hF) (cwV 1 hts wg_X11_checkCode_X11_two_105 rfl rfl rfl (by decide +kernel) ⟨Nat.le_of_ble_eq_true rfl, Nat.le_of_ble_eq_true rfl⟩) (va_recv hK hP (ci := 11) (q0 := 0) rfl (sm_gX11 σ α)) rfl rfl (Nat.le_of_ble_eq_true rfl) dX11_checkCode_93 ⟨Nat.zero_le _, Nat.zero_le _⟩ (fun r39 σ38 H locs hF hP hS => ?_)
      refine sm_vi (As := [.int x1, .int r39]) (rest := [.int y0, .ref (α.1 0)]) hP hK hD hE hS hA ⟨hx, hb, hml, hown, hts⟩ hl.1 (c_X11_isBegin l D H.size t0 σ38 α x1 r39 _ hF) (cwV 2 hts wg_X11_checkCode_X11_isBegin_141 rfl rfl rfl (by decide +kernel) ⟨Nat.le_of_ble_eq_true rfl, Nat.le_of_ble_eq_true rfl⟩) (va_recv hK hP (ci := 11) (q0 := 0) rfl (sm_gX11 σ38 α)) rfl rfl (Nat.le_of_ble_eq_true rfl) dX11_checkCode_96 ⟨Nat.zero_le _, Nat.zero_le _⟩ (fun r41 σ40 H locs hF hP hS => ?_)
      refine sm_vv (As := [.int y0, .int r41]) (rest := []) hP hK hD hE hS hA ⟨hx, hb, hml, hown, hts⟩ hl.1 (c_X11_note l D H.size t0 σ40 α y0 r41 _ hF) (cwV 2 hts wg_X11_checkCode_X11_note_137 rfl rfl rfl (by decide +kernel) ⟨Nat.le_of_ble_eq_true rfl, Nat.le_of_ble_eq_true rfl⟩) (va_recv hK hP (ci := 11) (q0 := 0) rfl (sm_gX11 σ40 α)) rfl rfl (Nat.le_of_ble_eq_true rfl) dX11_checkCode_99 ⟨Nat.zero_le _, Nat.zero_le _⟩ (fun σ42 H locs hF hP hS => ?_)
      exact B102 L7 hL7 σ42 x1 x2 x3 hF H locs ls hP hS (lv_sub hl [1, 2, 3, 4] rfl)
  have B76 : ∀ (L7 : sm_S → Int32 → Int32 → Prop) (hL7 : ∀ (σ : sm_S) (x1 : Int32) (x2 : Int32), L7 σ x1 x2 → sm_J p l e (headSpec wp_X11_checkCode { frames := 1, cells := 0, slots := 0, locals := 22 }).room s m ([.ref (α.1 0), .int p1] : List Value).toArray below meth c (MQ below (va_Qv K (sm_B sm_wM D α) A) ([.ref (α.1 0), .int p1] : List Value).toArray s 0 0 A) D A 5 (sm_wM σ α) 7 [(0, .ref (α.1 0)), (1, .int x1), (2, .int x2)] []) (σ : sm_S) (x1 : Int32) (x2 : Int32) (x3 : Int32), mp_X11_checkCode_76 L7 K σ x1 x2 x3 → sm_J p l e (headSpec wp_X11_checkCode { frames := 1, cells := 0, slots := 0, locals := 22 }).room s m ([.ref (α.1 0), .int p1] : List Value).toArray below meth c (MQ below (va_Qv K (sm_B sm_wM D α) A) ([.ref (α.1 0), .int p1] : List Value).toArray s 0 0 A) D A 5 (sm_wM σ α) 76 [(0, .ref (α.1 0)), (1, .int x1), (2, .int x2), (3, .int x3)] [] := by
    intro L7 hL7 σ x1 x2 x3 hF H locs ls hP hS hl
    unfold mp_X11_checkCode_76 at hF
    refine lv_iconst (v := -1) hx hb dX11_checkCode_76 (by decide) ?_
    exact B77 L7 hL7 σ x1 x2 x3 (-1) hF H locs ls hP hS (lv_sub hl [0, 1, 2, 3] rfl)
  have B52 : ∀ (L7 : sm_S → Int32 → Int32 → Prop) (hL7 : ∀ (σ : sm_S) (x1 : Int32) (x2 : Int32), L7 σ x1 x2 → sm_J p l e (headSpec wp_X11_checkCode { frames := 1, cells := 0, slots := 0, locals := 22 }).room s m ([.ref (α.1 0), .int p1] : List Value).toArray below meth c (MQ below (va_Qv K (sm_B sm_wM D α) A) ([.ref (α.1 0), .int p1] : List Value).toArray s 0 0 A) D A 5 (sm_wM σ α) 7 [(0, .ref (α.1 0)), (1, .int x1), (2, .int x2)] []) (σ : sm_S) (x1 : Int32) (x2 : Int32) (x3 : Int32), mp_X11_checkCode_52 L7 K σ x1 x2 x3 → sm_J p l e (headSpec wp_X11_checkCode { frames := 1, cells := 0, slots := 0, locals := 22 }).room s m ([.ref (α.1 0), .int p1] : List Value).toArray below meth c (MQ below (va_Qv K (sm_B sm_wM D α) A) ([.ref (α.1 0), .int p1] : List Value).toArray s 0 0 A) D A 5 (sm_wM σ α) 52 [(0, .ref (α.1 0)), (1, .int x1), (2, .int x2), (3, .int x3)] [] := by
    intro L7 hL7 σ x1 x2 x3 hF H locs ls hP hS hl
    unfold mp_X11_checkCode_52 at hF
    refine lv_iload_n hx hb dX11_checkCode_52 rfl (lv_at hl 2 rfl) ?_
    refine lv_iconst (v := 2) hx hb dX11_checkCode_53 (by decide) ?_
    refine lv_iadd hx hb dX11_checkCode_54 ?_
    refine lv_goto (tgt := 77) hx hb dX11_checkCode_55 (by decide) ?_
    exact B77 L7 hL7 σ x1 x2 x3 (x2 + 2) hF H locs ls hP hS (lv_sub hl [0, 1, 2, 3] rfl)
  have B7 : ∀ (n : Nat) (σ : sm_S) (x1 : Int32) (x2 : Int32), mp_X11_checkCode_7 K n σ x1 x2 → sm_J p l e (headSpec wp_X11_checkCode { frames := 1, cells := 0, slots := 0, locals := 22 }).room s m ([.ref (α.1 0), .int p1] : List Value).toArray below meth c (MQ below (va_Qv K (sm_B sm_wM D α) A) ([.ref (α.1 0), .int p1] : List Value).toArray s 0 0 A) D A 5 (sm_wM σ α) 7 [(0, .ref (α.1 0)), (1, .int x1), (2, .int x2)] [] := by
    intro n7
    induction n7 with
    | zero =>
      intro σ x1 x2 hF
      exact hF.elim
    | succ n7 ih7 =>
      intro σ x1 x2 hF H locs ls hP hS hl
      unfold mp_X11_checkCode_7 at hF
      refine lv_iload_n hx hb dX11_checkCode_7 rfl (lv_at hl 2 rfl) ?_
      refine lv_aload_n hx hb dX11_checkCode_8 rfl (lv_at hl 0 rfl) ?_
      refine va_get (D := D) (ci := 11) (v := .ref (α.1 17)) (C := RX11) (T := TX11) (N := 28) hx hb hts in_X11 hown hK hP 0 (sm_gX11 σ α) rfl 22 (by decide) k_5 (fun _ h9 => h9) rfl dX11_checkCode_9 ?_
      refine lv_iload_n hx hb dX11_checkCode_12 rfl (lv_at hl 1 rfl) ?_
      obtain ⟨h43, hF⟩ := hF
      refine va_iald (n := (σ.2.2.1 17)) (f := (σ.2.2.2.1 17)) hx hb hK hP 17 15 (sm_aM17 σ α) (sm_yM17 α) h43 dX11_checkCode_13 ?_
      refine lv_aload_n hx hb dX11_checkCode_14 rfl (lv_at hl 0 rfl) ?_
      refine va_get (D := D) (ci := 11) (v := .ref (α.1 18)) (C := RX11) (T := TX11) (N := 28) hx hb hts in_X11 hown hK hP 0 (sm_gX11 σ α) rfl 23 (by decide) k_0 (fun _ h9 => h9) rfl dX11_checkCode_15 ?_
      refine lv_iload_n hx hb dX11_checkCode_18 rfl (lv_at hl 1 rfl) ?_
      obtain ⟨h44, hF⟩ := hF
      refine va_iald (n := (σ.2.2.1 18)) (f := (σ.2.2.2.1 18)) hx hb hK hP 18 16 (sm_aM18 σ α) (sm_yM18 α) h44 dX11_checkCode_19 ?_
      refine lv_iadd hx hb dX11_checkCode_20 ?_
      refine lv_icmp_ge (tgt := 141) hx hb dX11_checkCode_21 (by decide) (fun h45 => ?_) (fun h45 => ?_)
      · replace hF := hF.1 h45
        refine lv_iconst (v := 0) hx hb dX11_checkCode_141 (by decide) ?_
        refine lv_istore_n (lv' := [(2, .int 0), (0, .ref (α.1 0)), (1, .int x1)]) hx hb dX11_checkCode_142 rfl hl (by decide) rfl (fun ls hl => ?_)
        obtain ⟨n143, hF⟩ := hF
        exact B143 n143 σ x1 0 hF H locs ls hP hS (lv_sub hl [1, 2, 0] rfl)
      · replace hF := hF.2 h45
        refine lv_aload_n hx hb dX11_checkCode_24 rfl (lv_at hl 0 rfl) ?_
        refine va_get (D := D) (ci := 11) (v := .ref (α.1 4)) (C := RX11) (T := TX11) (N := 28) hx hb hts in_X11 hown hK hP 0 (sm_gX11 σ α) rfl 3 (by decide) k_6 (fun _ h9 => h9) rfl dX11_checkCode_25 ?_
        refine lv_iload_n hx hb dX11_checkCode_28 rfl (lv_at hl 2 rfl) ?_
        obtain ⟨h46, hF⟩ := hF
        refine va_zald (n := (σ.2.2.1 4)) (f := (σ.2.2.2.1 4)) hx hb hK hP 4 2 (sm_aM4 σ α) (sm_yM4 α) h46 dX11_checkCode_29 ?_
        refine lv_if_eq (tgt := 135) hx hb dX11_checkCode_30 (by decide) (fun h47 => ?_) (fun h47 => ?_)
        · replace hF := hF.1 h47
          exact B135 (mp_X11_checkCode_7 K n7) ih7 σ x1 x2 hF H locs ls hP hS (lv_sub hl [0, 1, 2] rfl)
        · replace hF := hF.2 h47
          refine lv_aload_n hx hb dX11_checkCode_33 rfl (lv_at hl 0 rfl) ?_
          refine va_get (D := D) (ci := 11) (v := .ref (α.1 3)) (C := RX11) (T := TX11) (N := 28) hx hb hts in_X11 hown hK hP 0 (sm_gX11 σ α) rfl 2 (by decide) k_3 (fun _ h9 => h9) rfl dX11_checkCode_34 ?_
          refine lv_iload_n hx hb dX11_checkCode_37 rfl (lv_at hl 2 rfl) ?_
          obtain ⟨h48, hF⟩ := hF
          refine va_iald (n := (σ.2.2.1 3)) (f := (σ.2.2.2.1 3)) hx hb hK hP 3 1 (sm_aM3 σ α) (sm_yM3 α) h48 dX11_checkCode_38 ?_
          refine lv_topi (fun v49 ev49 => ?_)
          replace hF := hF v49 ev49
          refine lv_istore_n (lv' := [(3, .int v49), (0, .ref (α.1 0)), (1, .int x1), (2, .int x2)]) hx hb dX11_checkCode_39 rfl hl (by decide) rfl (fun ls hl => ?_)
          refine lv_iload_n hx hb dX11_checkCode_40 rfl (lv_at hl 0 rfl) ?_
          refine lv_bipush (v := 19) hx hb dX11_checkCode_41 (by decide) ?_
          refine lv_icmp_eq (tgt := 52) hx hb dX11_checkCode_43 (by decide) (fun h50 => ?_) (fun h50 => ?_)
          · replace hF := hF.1 h50
            exact B52 (mp_X11_checkCode_7 K n7) ih7 σ x1 x2 v49 hF H locs ls hP hS (lv_sub hl [1, 2, 3, 0] rfl)
          · replace hF := hF.2 h50
            refine lv_iload_n hx hb dX11_checkCode_46 rfl (lv_at hl 0 rfl) ?_
            refine lv_bipush (v := 20) hx hb dX11_checkCode_47 (by decide) ?_
            refine lv_icmp_ne (tgt := 58) hx hb dX11_checkCode_49 (by decide) (fun h51 => ?_) (fun h51 => ?_)
            · replace hF := hF.1 h51
              refine lv_iload_n hx hb dX11_checkCode_58 rfl (lv_at hl 0 rfl) ?_
              refine lv_bipush (v := 21) hx hb dX11_checkCode_59 (by decide) ?_
              refine lv_icmp_lt (tgt := 76) hx hb dX11_checkCode_61 (by decide) (fun h52 => ?_) (fun h52 => ?_)
              · replace hF := hF.1 h52
                exact B76 (mp_X11_checkCode_7 K n7) ih7 σ x1 x2 v49 hF H locs ls hP hS (lv_sub hl [1, 2, 3, 0] rfl)
              · replace hF := hF.2 h52
                refine lv_iload_n hx hb dX11_checkCode_64 rfl (lv_at hl 0 rfl) ?_
                refine lv_bipush (v := 25) hx hb dX11_checkCode_65 (by decide) ?_
                refine lv_icmp_gt (tgt := 76) hx hb dX11_checkCode_67 (by decide) (fun h53 => ?_) (fun h53 => ?_)
                · replace hF := hF.1 h53
                  exact B76 (mp_X11_checkCode_7 K n7) ih7 σ x1 x2 v49 hF H locs ls hP hS (lv_sub hl [1, 2, 3, 0] rfl)
                · replace hF := hF.2 h53
                  refine lv_iload_n hx hb dX11_checkCode_70 rfl (lv_at hl 3 rfl) ?_
                  refine lv_iconst (v := 1) hx hb dX11_checkCode_71 (by decide) ?_
                  refine lv_iadd hx hb dX11_checkCode_72 ?_
                  refine lv_goto (tgt := 77) hx hb dX11_checkCode_73 (by decide) ?_
                  exact B77 (mp_X11_checkCode_7 K n7) ih7 σ x1 x2 v49 (x2 + 1) hF H locs ls hP hS (lv_sub hl [1, 2, 3, 0] rfl)
            · replace hF := hF.2 h51
              exact B52 (mp_X11_checkCode_7 K n7) ih7 σ x1 x2 v49 hF H locs ls hP hS (lv_sub hl [1, 2, 3, 0] rfl)
  unfold mp_X11_checkCode at hF
  revert hP hS
  generalize hLo : ([] : List Loc) = locs
  suffices h9 : ∀ (H : Heap) (locs : List Loc), va_P D vwCl (sm_wM σ α) H → va_S A s.heap H locs → W p l e (headSpec wp_X11_checkCode { frames := 1, cells := 0, slots := 0, locals := 22 }).room s m ([.ref (α.1 0), .int p1] : List Value).toArray below meth c H locs 0 0 (MQ below (va_Qv K (sm_B sm_wM D α) A) ([.ref (α.1 0), .int p1] : List Value).toArray s 0 0 A) (F0 m 0 ls []) from fun hP hS => h9 s.heap locs hP hS
  intro H locs hP hS
  refine lv_aload_n hx hb dX11_checkCode_0 rfl (lv_at hl 0 rfl) ?_
  refine va_get (D := D) (ci := 11) (v := .ref (α.1 17)) (C := RX11) (T := TX11) (N := 28) hx hb hts in_X11 hown hK hP 0 (sm_gX11 σ α) rfl 22 (by decide) k_5 (fun _ h9 => h9) rfl dX11_checkCode_1 ?_
  refine lv_iload_n hx hb dX11_checkCode_4 rfl (lv_at hl 1 rfl) ?_
  obtain ⟨h54, hF⟩ := hF
  refine va_iald (n := (σ.2.2.1 17)) (f := (σ.2.2.2.1 17)) hx hb hK hP 17 15 (sm_aM17 σ α) (sm_yM17 α) h54 dX11_checkCode_5 ?_
  refine lv_topi (fun v55 ev55 => ?_)
  replace hF := hF v55 ev55
  refine lv_istore_n (lv' := [(2, .int v55), (0, .ref (α.1 0)), (1, .int p1)]) hx hb dX11_checkCode_6 rfl hl (by decide) rfl (fun ls hl => ?_)
  obtain ⟨n7, hF⟩ := hF
  exact B7 n7 σ p1 v55 hF H locs ls hP hS (lv_sub hl [1, 2, 0] rfl)
theorem dX11_end_0 : decode cX11_end 0 = .ok (.iload_n 1, 1) := by decide +kernel
theorem dX11_end_1 : decode cX11_end 1 = .ok (.ifCond .lt 11, 3) := by decide +kernel
theorem dX11_end_4 : decode cX11_end 4 = .ok (.iload_n 1, 1) := by decide +kernel
theorem dX11_end_5 : decode cX11_end 5 = .ok (.aload_n 0, 1) := by decide +kernel
theorem dX11_end_6 : decode cX11_end 6 = .ok (.getfield 70, 3) := by decide +kernel
theorem dX11_end_9 : decode cX11_end 9 = .ok (.if_icmp .le 10, 3) := by decide +kernel
theorem dX11_end_12 : decode cX11_end 12 = .ok (.aload_n 0, 1) := by decide +kernel
theorem dX11_end_13 : decode cX11_end 13 = .ok (.iconst 0, 1) := by decide +kernel
theorem dX11_end_14 : decode cX11_end 14 = .ok (.putfield 70, 3) := by decide +kernel
theorem dX11_end_17 : decode cX11_end 17 = .ok (.iconst (-1), 1) := by decide +kernel
theorem dX11_end_18 : decode cX11_end 18 = .ok (.ireturn, 1) := by decide +kernel
theorem dX11_end_19 : decode cX11_end 19 = .ok (.aload_n 0, 1) := by decide +kernel
theorem dX11_end_20 : decode cX11_end 20 = .ok (.iload_n 1, 1) := by decide +kernel
theorem dX11_end_21 : decode cX11_end 21 = .ok (.putfield 80, 3) := by decide +kernel
theorem dX11_end_24 : decode cX11_end 24 = .ok (.iconst 0, 1) := by decide +kernel
theorem dX11_end_25 : decode cX11_end 25 = .ok (.istore_n 2, 1) := by decide +kernel
theorem dX11_end_26 : decode cX11_end 26 = .ok (.iload_n 2, 1) := by decide +kernel
theorem dX11_end_27 : decode cX11_end 27 = .ok (.iload_n 1, 1) := by decide +kernel
theorem dX11_end_28 : decode cX11_end 28 = .ok (.if_icmp .ge 28, 3) := by decide +kernel
theorem dX11_end_31 : decode cX11_end 31 = .ok (.aload_n 0, 1) := by decide +kernel
theorem dX11_end_32 : decode cX11_end 32 = .ok (.getfield 15, 3) := by decide +kernel
theorem dX11_end_35 : decode cX11_end 35 = .ok (.iload_n 2, 1) := by decide +kernel
theorem dX11_end_36 : decode cX11_end 36 = .ok (.aload_n 0, 1) := by decide +kernel
theorem dX11_end_37 : decode cX11_end 37 = .ok (.getfield 11, 3) := by decide +kernel
theorem dX11_end_40 : decode cX11_end 40 = .ok (.iload_n 2, 1) := by decide +kernel
theorem dX11_end_41 : decode cX11_end 41 = .ok (.iaload, 1) := by decide +kernel
theorem dX11_end_42 : decode cX11_end 42 = .ok (.iastore, 1) := by decide +kernel
theorem dX11_end_43 : decode cX11_end 43 = .ok (.aload_n 0, 1) := by decide +kernel
theorem dX11_end_44 : decode cX11_end 44 = .ok (.getfield 18, 3) := by decide +kernel
theorem dX11_end_47 : decode cX11_end 47 = .ok (.iload_n 2, 1) := by decide +kernel
theorem dX11_end_48 : decode cX11_end 48 = .ok (.iconst 0, 1) := by decide +kernel
theorem dX11_end_49 : decode cX11_end 49 = .ok (.bastore, 1) := by decide +kernel
theorem dX11_end_50 : decode cX11_end 50 = .ok (.iinc 2 1, 3) := by decide +kernel
theorem dX11_end_53 : decode cX11_end 53 = .ok (.goto (-27), 3) := by decide +kernel
theorem dX11_end_56 : decode cX11_end 56 = .ok (.aload_n 0, 1) := by decide +kernel
theorem dX11_end_57 : decode cX11_end 57 = .ok (.iconst 0, 1) := by decide +kernel
theorem dX11_end_58 : decode cX11_end 58 = .ok (.putfield 70, 3) := by decide +kernel
theorem dX11_end_61 : decode cX11_end 61 = .ok (.aload_n 0, 1) := by decide +kernel
theorem dX11_end_62 : decode cX11_end 62 = .ok (.iconst 0, 1) := by decide +kernel
theorem dX11_end_63 : decode cX11_end 63 = .ok (.putfield 77, 3) := by decide +kernel
theorem dX11_end_66 : decode cX11_end 66 = .ok (.aload_n 0, 1) := by decide +kernel
theorem dX11_end_67 : decode cX11_end 67 = .ok (.iconst (-1), 1) := by decide +kernel
theorem dX11_end_68 : decode cX11_end 68 = .ok (.putfield 74, 3) := by decide +kernel
theorem dX11_end_71 : decode cX11_end 71 = .ok (.aload_n 0, 1) := by decide +kernel
theorem dX11_end_72 : decode cX11_end 72 = .ok (.iconst 0, 1) := by decide +kernel
theorem dX11_end_73 : decode cX11_end 73 = .ok (.putfield 119, 3) := by decide +kernel
theorem dX11_end_76 : decode cX11_end 76 = .ok (.aload_n 0, 1) := by decide +kernel
theorem dX11_end_77 : decode cX11_end 77 = .ok (.iconst 0, 1) := by decide +kernel
theorem dX11_end_78 : decode cX11_end 78 = .ok (.putfield 144, 3) := by decide +kernel
theorem dX11_end_81 : decode cX11_end 81 = .ok (.aload_n 0, 1) := by decide +kernel
theorem dX11_end_82 : decode cX11_end 82 = .ok (.invokevirtual 148, 3) := by decide +kernel
theorem dX11_end_85 : decode cX11_end 85 = .ok (.ifCond .eq 28, 3) := by decide +kernel
theorem dX11_end_88 : decode cX11_end 88 = .ok (.aload_n 0, 1) := by decide +kernel
theorem dX11_end_89 : decode cX11_end 89 = .ok (.invokevirtual 151, 3) := by decide +kernel
theorem dX11_end_92 : decode cX11_end 92 = .ok (.iconst 0, 1) := by decide +kernel
theorem dX11_end_93 : decode cX11_end 93 = .ok (.istore_n 2, 1) := by decide +kernel
theorem dX11_end_94 : decode cX11_end 94 = .ok (.iload_n 2, 1) := by decide +kernel
theorem dX11_end_95 : decode cX11_end 95 = .ok (.aload_n 0, 1) := by decide +kernel
theorem dX11_end_96 : decode cX11_end 96 = .ok (.getfield 125, 3) := by decide +kernel
theorem dX11_end_99 : decode cX11_end 99 = .ok (.if_icmp .ge 14, 3) := by decide +kernel
theorem dX11_end_102 : decode cX11_end 102 = .ok (.aload_n 0, 1) := by decide +kernel
theorem dX11_end_103 : decode cX11_end 103 = .ok (.iload_n 2, 1) := by decide +kernel
theorem dX11_end_104 : decode cX11_end 104 = .ok (.invokevirtual 154, 3) := by decide +kernel
theorem dX11_end_107 : decode cX11_end 107 = .ok (.iinc 2 1, 3) := by decide +kernel
theorem dX11_end_110 : decode cX11_end 110 = .ok (.goto (-16), 3) := by decide +kernel
theorem dX11_end_113 : decode cX11_end 113 = .ok (.aload_n 0, 1) := by decide +kernel
theorem dX11_end_114 : decode cX11_end 114 = .ok (.aload_n 0, 1) := by decide +kernel
theorem dX11_end_115 : decode cX11_end 115 = .ok (.getfield 74, 3) := by decide +kernel
theorem dX11_end_118 : decode cX11_end 118 = .ok (.ifCond .ge 7, 3) := by decide +kernel
theorem dX11_end_121 : decode cX11_end 121 = .ok (.iconst 1, 1) := by decide +kernel
theorem dX11_end_122 : decode cX11_end 122 = .ok (.goto 4, 3) := by decide +kernel
theorem dX11_end_125 : decode cX11_end 125 = .ok (.iconst 0, 1) := by decide +kernel
theorem dX11_end_126 : decode cX11_end 126 = .ok (.putfield 144, 3) := by decide +kernel
theorem dX11_end_129 : decode cX11_end 129 = .ok (.aload_n 0, 1) := by decide +kernel
theorem dX11_end_130 : decode cX11_end 130 = .ok (.getfield 144, 3) := by decide +kernel
theorem dX11_end_133 : decode cX11_end 133 = .ok (.ifCond .eq 10, 3) := by decide +kernel
theorem dX11_end_136 : decode cX11_end 136 = .ok (.aload_n 0, 1) := by decide +kernel
theorem dX11_end_137 : decode cX11_end 137 = .ok (.getfield 119, 3) := by decide +kernel
theorem dX11_end_140 : decode cX11_end 140 = .ok (.goto 10, 3) := by decide +kernel
theorem dX11_end_143 : decode cX11_end 143 = .ok (.bipush (-3), 2) := by decide +kernel
theorem dX11_end_145 : decode cX11_end 145 = .ok (.aload_n 0, 1) := by decide +kernel
theorem dX11_end_146 : decode cX11_end 146 = .ok (.getfield 74, 3) := by decide +kernel
theorem dX11_end_149 : decode cX11_end 149 = .ok (.isub, 1) := by decide +kernel
theorem dX11_end_150 : decode cX11_end 150 = .ok (.ireturn, 1) := by decide +kernel
def wp_X11_end : List Cond := .code yX11_end cX11_end 3 (some .int) :: (((([.fieldLink RX11 144 "SteadyMachineModel$Image" "there" "Z", .fieldLink RX11 74 "SteadyMachineModel$Image" "wrong" "I", .fieldLink RX11 119 "SteadyMachineModel$Image" "instructions" "I", .fieldLink RX11 125 "SteadyMachineModel$Image" "methods" "I", .fieldLink RX11 70 "SteadyMachineModel$Image" "taped" "I", .fieldLink RX11 77 "SteadyMachineModel$Image" "place" "I", .fieldLink RX11 15 "SteadyMachineModel$Image" "image" "[I", .fieldLink RX11 11 "SteadyMachineModel$Image" "tape" "[I", .fieldLink RX11 18 "SteadyMachineModel$Image" "begins" "[Z", .fieldLink RX11 80 "SteadyMachineModel$Image" "size" "I"] ++ (wsV RX11 154 RX11 yX11_checkCode wp_X11_checkCode)) ++ (wsV RX11 148 RX11 yX11_readAll wp_X11_readAll)) ++ (wsV RX11 151 RX11 yX11_checkSlots wp_X11_checkSlots)) ++ wsX110)
theorem wq_X11_end : wp_X11_end.all goodWord = true := wa_c rfl (wa_a (wa_a (wa_a (wa_a (by decide +kernel) (wa_V wq_X11_checkCode)) (wa_V wq_X11_readAll)) (wa_V wq_X11_checkSlots)) uq_X11)
theorem wt_X11_end : GoodIn lw_tbl wp_X11_end := wm_c (List.mem_of_getElem? (i := 1206) (by decide +kernel)) rfl (wm_a (wm_a (wm_a (wm_a (goodIn_r _ [1390, 1389, 1426, 1405, 1382, 1388, 1384, 1381, 1386, 1387] (by decide +kernel) (by decide +kernel)) (wm_a (goodIn_r _ [1267, 1269, 82, 148] (by decide +kernel) (by decide +kernel)) wt_X11_checkCode)) (wm_a (goodIn_r _ [1207, 1209, 68, 148] (by decide +kernel) (by decide +kernel)) wt_X11_readAll)) (wm_a (goodIn_r _ [1255, 1257, 79, 148] (by decide +kernel) (by decide +kernel)) wt_X11_checkSlots)) ut_X11)
theorem wg_X11_end_X11_checkCode_154 : GoodIn wp_X11_end (wsV RX11 154 RX11 yX11_checkCode wp_X11_checkCode) := goodIn_sub (fun w h => List.mem_cons_of_mem _ (List.mem_append_left _ (List.mem_append_left _ (List.mem_append_left _ (List.mem_append_right _ h))))) (wa_V wq_X11_checkCode)
theorem wg_X11_end_X11_readAll_148 : GoodIn wp_X11_end (wsV RX11 148 RX11 yX11_readAll wp_X11_readAll) := goodIn_sub (fun w h => List.mem_cons_of_mem _ (List.mem_append_left _ (List.mem_append_left _ (List.mem_append_right _ h)))) (wa_V wq_X11_readAll)
theorem wg_X11_end_X11_checkSlots_151 : GoodIn wp_X11_end (wsV RX11 151 RX11 yX11_checkSlots wp_X11_checkSlots) := goodIn_sub (fun w h => List.mem_cons_of_mem _ (List.mem_append_left _ (List.mem_append_right _ h))) (wa_V wq_X11_checkSlots)
theorem wi_X11_end_X11 : ∀ w ∈ wsX110, w ∈ wp_X11_end := fun w h => List.mem_cons_of_mem _ (List.mem_append_right _ h)
set_option maxHeartbeats 4000000 in
set_option maxRecDepth 100000 in
theorem c_X11_end (l : Launch) (D : va_G) (sz t0 : Nat) (σ : sm_S) (α : sm_A) (p1 : Int32) (K : Int32 → sm_S → Prop) (hF : mp_X11_end σ p1 K) : Met l yX11_end wp_X11_end { frames := 6, cells := 0, slots := 0, locals := 137 } (sm_P sm_wM sm_tM 40 D sz t0 σ α [.ref (α.1 0), .int p1]) (va_Qi K (sm_B sm_wM D α) (sm_a α 40 sz)) 0 0 (sm_a α 40 sz) := by
  refine Met.ofW (cc := cX11_end) (maxL := 3) (ret := (some .int)) (by decide) rfl ?_
  intro p e s m args below meth c s₁ B hml hv
  obtain ⟨rfl, hsz, hP, hK, hD0, hE⟩ := hv
  have hx := B.exec
  have hb := B.bytes
  have hr := B.returns
  have hts := atoms_spec (ws := wp_X11_end) B.pre
  have hown : s.vm.findClass RX11 = some m.cls := findClass_of_methodNamed B.named
  have hlocks := B.notSynchronized
  subst hsz
  have hD : sm_D (sm_a α 40 s.heap.size) α 40 := hD0.own
  have hA : ∀ q : Nat, s.heap.size ≤ q → sm_a α 40 s.heap.size q := fun q h => Or.inr h
  generalize hAe : sm_a α 40 s.heap.size = A at hD hA hE ⊢
  have hS : va_S A s.heap s.heap [] := va_S.rf
  have in_X11 : ∀ w ∈ wsX110, w ∈ wp_X11_end := wi_X11_end_X11
  have k_0 := hts (.fieldLink RX11 144 "SteadyMachineModel$Image" "there" "Z") (by decide +kernel)
  have k_1 := hts (.fieldLink RX11 74 "SteadyMachineModel$Image" "wrong" "I") (by decide +kernel)
  have k_2 := hts (.fieldLink RX11 119 "SteadyMachineModel$Image" "instructions" "I") (by decide +kernel)
  have k_3 := hts (.fieldLink RX11 125 "SteadyMachineModel$Image" "methods" "I") (by decide +kernel)
  have k_4 := hts (.fieldLink RX11 70 "SteadyMachineModel$Image" "taped" "I") (by decide +kernel)
  have k_5 := hts (.fieldLink RX11 77 "SteadyMachineModel$Image" "place" "I") (by decide +kernel)
  have k_6 := hts (.fieldLink RX11 15 "SteadyMachineModel$Image" "image" "[I") (by decide +kernel)
  have k_7 := hts (.fieldLink RX11 11 "SteadyMachineModel$Image" "tape" "[I") (by decide +kernel)
  have k_8 := hts (.fieldLink RX11 18 "SteadyMachineModel$Image" "begins" "[Z") (by decide +kernel)
  have k_9 := hts (.fieldLink RX11 80 "SteadyMachineModel$Image" "size" "I") (by decide +kernel)
  have hl := lv_entry ([.ref (α.1 0), .int p1]) (n := 3) (Nat.le_of_ble_eq_true rfl)
  rw [lg_entry_eq]
  generalize (lg_sl ([.ref (α.1 0), .int p1]) ++ List.replicate (3 - (lg_sl ([.ref (α.1 0), .int p1])).length) Slot.unset).toArray = ls at hl ⊢
  have hl : lv_has ls 3 [(0, .ref (α.1 0)), (1, .int p1)] := hl
  have B150 : ∀ (σ : sm_S) (y0 : Int32), mp_X11_end_150 K σ y0 → sm_J p l e (headSpec wp_X11_end { frames := 6, cells := 0, slots := 0, locals := 137 }).room s m ([.ref (α.1 0), .int p1] : List Value).toArray below meth c (MQ below (va_Qi K (sm_B sm_wM D α) A) ([.ref (α.1 0), .int p1] : List Value).toArray s 0 0 A) D A 3 (sm_wM σ α) 150 [] [.int y0] := by
    intro σ y0 hF H locs ls hP hS hl
    unfold mp_X11_end_150 at hF
    exact W.iret (v := y0) hx hb hr (fun t ht hW => ⟨⟨y0, σ, rfl, hF, (by unfold sm_B; rw [ht]; exact hP)⟩, hS.F ht⟩) hS.2.2 dX11_end_150
  have B126 : ∀ (σ : sm_S) (y1 : Int32), mp_X11_end_126 K σ y1 → sm_J p l e (headSpec wp_X11_end { frames := 6, cells := 0, slots := 0, locals := 137 }).room s m ([.ref (α.1 0), .int p1] : List Value).toArray below meth c (MQ below (va_Qi K (sm_B sm_wM D α) A) ([.ref (α.1 0), .int p1] : List Value).toArray s 0 0 A) D A 3 (sm_wM σ α) 126 [(0, .ref (α.1 0))] [.int y1, .ref (α.1 0)] := by
    intro σ y1 hF H locs ls hP hS hl
    unfold mp_X11_end_126 at hF
    obtain ⟨h1, hF⟩ := hF
    refine va_put (D := D) (ci := 11) (v := .int y1) (ty := .boolean) (C := RX11) (T := TX11) (N := 28) hx hb hts in_X11 tyX11 tyX11_ok nmX11 hown hK hP (hD.to (sm_wM_m _ _)) hS 0 (sm_gX11 σ α) rfl 7 (by decide) k_0 (fun _ h9 => h9) rfl (by decide +kernel) h1.1 h1.2 (Nat.le_of_ble_eq_true rfl) dX11_end_126 (fun H locs hP _ hS => ?_)
    rw [sm_iM4] at hP
    obtain ⟨σ2, eσ2⟩ : ∃ x : sm_S, x = sm_i σ 4 y1 := ⟨_, rfl⟩
    replace hF := hF σ2 eσ2
    rw [← eσ2] at hP
    refine lv_aload_n hx hb dX11_end_129 rfl (lv_at hl 0 rfl) ?_
    refine va_get (D := D) (ci := 11) (v := .int (σ2.1 4)) (C := RX11) (T := TX11) (N := 28) hx hb hts in_X11 hown hK hP 0 (sm_gX11 σ2 α) rfl 7 (by decide) k_0 (fun _ h9 => h9) rfl dX11_end_130 ?_
    refine lv_if_eq (tgt := 143) hx hb dX11_end_133 (by decide) (fun h3 => ?_) (fun h3 => ?_)
    · replace hF := hF.1 h3
      refine lv_bipush (v := -3) hx hb dX11_end_143 (by decide) ?_
      refine lv_aload_n hx hb dX11_end_145 rfl (lv_at hl 0 rfl) ?_
      refine va_get (D := D) (ci := 11) (v := .int (σ2.1 3)) (C := RX11) (T := TX11) (N := 28) hx hb hts in_X11 hown hK hP 0 (sm_gX11 σ2 α) rfl 6 (by decide) k_1 (fun _ h9 => h9) rfl dX11_end_146 ?_
      refine lv_isub hx hb dX11_end_149 ?_
      exact B150 σ2 ((-3) - (σ2.1 3)) hF H locs ls hP hS (lv_sub hl [] rfl)
    · replace hF := hF.2 h3
      refine lv_aload_n hx hb dX11_end_136 rfl (lv_at hl 0 rfl) ?_
      refine va_get (D := D) (ci := 11) (v := .int (σ2.1 7)) (C := RX11) (T := TX11) (N := 28) hx hb hts in_X11 hown hK hP 0 (sm_gX11 σ2 α) rfl 26 (by decide) k_2 (fun _ h9 => h9) rfl dX11_end_137 ?_
      refine lv_goto (tgt := 150) hx hb dX11_end_140 (by decide) ?_
      exact B150 σ2 (σ2.1 7) hF H locs ls hP hS (lv_sub hl [] rfl)
  have B113 : ∀ (σ : sm_S), mp_X11_end_113 K σ → sm_J p l e (headSpec wp_X11_end { frames := 6, cells := 0, slots := 0, locals := 137 }).room s m ([.ref (α.1 0), .int p1] : List Value).toArray below meth c (MQ below (va_Qi K (sm_B sm_wM D α) A) ([.ref (α.1 0), .int p1] : List Value).toArray s 0 0 A) D A 3 (sm_wM σ α) 113 [(0, .ref (α.1 0))] [] := by
    intro σ hF H locs ls hP hS hl
    unfold mp_X11_end_113 at hF
    refine lv_aload_n hx hb dX11_end_113 rfl (lv_at hl 0 rfl) ?_
    refine lv_aload_n hx hb dX11_end_114 rfl (lv_at hl 0 rfl) ?_
    refine va_get (D := D) (ci := 11) (v := .int (σ.1 3)) (C := RX11) (T := TX11) (N := 28) hx hb hts in_X11 hown hK hP 0 (sm_gX11 σ α) rfl 6 (by decide) k_1 (fun _ h9 => h9) rfl dX11_end_115 ?_
    refine lv_if_ge (tgt := 125) hx hb dX11_end_118 (by decide) (fun h4 => ?_) (fun h4 => ?_)
    · replace hF := hF.1 h4
      refine lv_iconst (v := 0) hx hb dX11_end_125 (by decide) ?_
      exact B126 σ 0 hF H locs ls hP hS (lv_sub hl [0] rfl)
    · replace hF := hF.2 h4
      refine lv_iconst (v := 1) hx hb dX11_end_121 (by decide) ?_
      refine lv_goto (tgt := 126) hx hb dX11_end_122 (by decide) ?_
      exact B126 σ 1 hF H locs ls hP hS (lv_sub hl [0] rfl)
  have B94 : ∀ (n : Nat) (σ : sm_S) (x2 : Int32), mp_X11_end_94 K n σ x2 → sm_J p l e (headSpec wp_X11_end { frames := 6, cells := 0, slots := 0, locals := 137 }).room s m ([.ref (α.1 0), .int p1] : List Value).toArray below meth c (MQ below (va_Qi K (sm_B sm_wM D α) A) ([.ref (α.1 0), .int p1] : List Value).toArray s 0 0 A) D A 3 (sm_wM σ α) 94 [(0, .ref (α.1 0)), (2, .int x2)] [] := by
    intro n94
    induction n94 with
    | zero =>
      intro σ x2 hF
      exact hF.elim
    | succ n94 ih94 =>
      intro σ x2 hF H locs ls hP hS hl
      unfold mp_X11_end_94 at hF
      refine lv_iload_n hx hb dX11_end_94 rfl (lv_at hl 1 rfl) ?_
      refine lv_aload_n hx hb dX11_end_95 rfl (lv_at hl 0 rfl) ?_
      refine va_get (D := D) (ci := 11) (v := .int (σ.1 6)) (C := RX11) (T := TX11) (N := 28) hx hb hts in_X11 hown hK hP 0 (sm_gX11 σ α) rfl 15 (by decide) k_3 (fun _ h9 => h9) rfl dX11_end_96 ?_
      refine lv_icmp_ge (tgt := 113) hx hb dX11_end_99 (by decide) (fun h5 => ?_) (fun h5 => ?_)
      · replace hF := hF.1 h5
        exact B113 σ hF H locs ls hP hS (lv_sub hl [0] rfl)
      · replace hF := hF.2 h5
        refine lv_aload_n hx hb dX11_end_102 rfl (lv_at hl 0 rfl) ?_
        refine lv_iload_n hx hb dX11_end_103 rfl (lv_at hl 1 rfl) ?_
        refine sm_vv (As := [.int x2]) (rest := []) hP hK hD hE hS hA ⟨hx, hb, hml, hown, hts⟩ hl.1 (c_X11_checkCode l D H.size t0 σ α x2 _ hF) (cwV 1 hts wg_X11_end_X11_checkCode_154 rfl rfl rfl (by decide +kernel) ⟨Nat.le_of_ble_eq_true rfl, Nat.le_of_ble_eq_true rfl⟩) (va_recv hK hP (ci := 11) (q0 := 0) rfl (sm_gX11 σ α)) rfl rfl (Nat.le_of_ble_eq_true rfl) dX11_end_104 ⟨Nat.zero_le _, Nat.zero_le _⟩ (fun σ6 H locs hF hP hS => ?_)
        obtain ⟨v7, ev7⟩ : ∃ y : Int32, y = x2 + 1 := ⟨_, rfl⟩
        replace hF := hF v7 ev7
        refine lv_iinc (v := v7) (lv' := [(2, .int v7), (0, .ref (α.1 0))]) hx hb dX11_end_107 hl (k := 1) rfl (by rw [ev7]; rfl) (by decide) rfl (fun ls hl => ?_)
        refine lv_goto (tgt := 94) hx hb dX11_end_110 (by decide) ?_
        exact ih94 σ6 v7 hF H locs ls hP hS (lv_sub hl [1, 0] rfl)
  have B26 : ∀ (n : Nat) (σ : sm_S) (x1 : Int32) (x2 : Int32), mp_X11_end_26 K n σ x1 x2 → sm_J p l e (headSpec wp_X11_end { frames := 6, cells := 0, slots := 0, locals := 137 }).room s m ([.ref (α.1 0), .int p1] : List Value).toArray below meth c (MQ below (va_Qi K (sm_B sm_wM D α) A) ([.ref (α.1 0), .int p1] : List Value).toArray s 0 0 A) D A 3 (sm_wM σ α) 26 [(0, .ref (α.1 0)), (1, .int x1), (2, .int x2)] [] := by
    intro n26
    induction n26 with
    | zero =>
      intro σ x1 x2 hF
      exact hF.elim
    | succ n26 ih26 =>
      intro σ x1 x2 hF H locs ls hP hS hl
      unfold mp_X11_end_26 at hF
      refine lv_iload_n hx hb dX11_end_26 rfl (lv_at hl 2 rfl) ?_
      refine lv_iload_n hx hb dX11_end_27 rfl (lv_at hl 1 rfl) ?_
      refine lv_icmp_ge (tgt := 56) hx hb dX11_end_28 (by decide) (fun h8 => ?_) (fun h8 => ?_)
      · replace hF := hF.1 h8
        refine lv_aload_n hx hb dX11_end_56 rfl (lv_at hl 0 rfl) ?_
        refine lv_iconst (v := 0) hx hb dX11_end_57 (by decide) ?_
        refine va_put (D := D) (ci := 11) (v := .int 0) (ty := .int) (C := RX11) (T := TX11) (N := 28) hx hb hts in_X11 tyX11 tyX11_ok nmX11 hown hK hP (hD.to (sm_wM_m _ _)) hS 0 (sm_gX11 σ α) rfl 1 (by decide) k_4 (fun _ h9 => h9) rfl (by decide +kernel) rfl rfl (Nat.le_of_ble_eq_true rfl) dX11_end_58 (fun H locs hP _ hS => ?_)
        rw [sm_iM0] at hP
        obtain ⟨σ9, eσ9⟩ : ∃ x : sm_S, x = sm_i σ 0 0 := ⟨_, rfl⟩
        replace hF := hF σ9 eσ9
        rw [← eσ9] at hP
        refine lv_aload_n hx hb dX11_end_61 rfl (lv_at hl 0 rfl) ?_
        refine lv_iconst (v := 0) hx hb dX11_end_62 (by decide) ?_
        refine va_put (D := D) (ci := 11) (v := .int 0) (ty := .int) (C := RX11) (T := TX11) (N := 28) hx hb hts in_X11 tyX11 tyX11_ok nmX11 hown hK hP (hD.to (sm_wM_m _ _)) hS 0 (sm_gX11 σ9 α) rfl 5 (by decide) k_5 (fun _ h9 => h9) rfl (by decide +kernel) rfl rfl (Nat.le_of_ble_eq_true rfl) dX11_end_63 (fun H locs hP _ hS => ?_)
        rw [sm_iM2] at hP
        obtain ⟨σ10, eσ10⟩ : ∃ x : sm_S, x = sm_i σ9 2 0 := ⟨_, rfl⟩
        replace hF := hF σ10 eσ10
        rw [← eσ10] at hP
        refine lv_aload_n hx hb dX11_end_66 rfl (lv_at hl 0 rfl) ?_
        refine lv_iconst (v := -1) hx hb dX11_end_67 (by decide) ?_
        refine va_put (D := D) (ci := 11) (v := .int (-1)) (ty := .int) (C := RX11) (T := TX11) (N := 28) hx hb hts in_X11 tyX11 tyX11_ok nmX11 hown hK hP (hD.to (sm_wM_m _ _)) hS 0 (sm_gX11 σ10 α) rfl 6 (by decide) k_1 (fun _ h9 => h9) rfl (by decide +kernel) rfl rfl (Nat.le_of_ble_eq_true rfl) dX11_end_68 (fun H locs hP _ hS => ?_)
        rw [sm_iM3] at hP
        obtain ⟨σ11, eσ11⟩ : ∃ x : sm_S, x = sm_i σ10 3 (-1) := ⟨_, rfl⟩
        replace hF := hF σ11 eσ11
        rw [← eσ11] at hP
        refine lv_aload_n hx hb dX11_end_71 rfl (lv_at hl 0 rfl) ?_
        refine lv_iconst (v := 0) hx hb dX11_end_72 (by decide) ?_
        refine va_put (D := D) (ci := 11) (v := .int 0) (ty := .int) (C := RX11) (T := TX11) (N := 28) hx hb hts in_X11 tyX11 tyX11_ok nmX11 hown hK hP (hD.to (sm_wM_m _ _)) hS 0 (sm_gX11 σ11 α) rfl 26 (by decide) k_2 (fun _ h9 => h9) rfl (by decide +kernel) rfl rfl (Nat.le_of_ble_eq_true rfl) dX11_end_73 (fun H locs hP _ hS => ?_)
        rw [sm_iM7] at hP
        obtain ⟨σ12, eσ12⟩ : ∃ x : sm_S, x = sm_i σ11 7 0 := ⟨_, rfl⟩
        replace hF := hF σ12 eσ12
        rw [← eσ12] at hP
        refine lv_aload_n hx hb dX11_end_76 rfl (lv_at hl 0 rfl) ?_
        refine lv_iconst (v := 0) hx hb dX11_end_77 (by decide) ?_
        refine va_put (D := D) (ci := 11) (v := .int 0) (ty := .boolean) (C := RX11) (T := TX11) (N := 28) hx hb hts in_X11 tyX11 tyX11_ok nmX11 hown hK hP (hD.to (sm_wM_m _ _)) hS 0 (sm_gX11 σ12 α) rfl 7 (by decide) k_0 (fun _ h9 => h9) rfl (by decide +kernel) sm_z0.1 sm_z0.2 (Nat.le_of_ble_eq_true rfl) dX11_end_78 (fun H locs hP _ hS => ?_)
        rw [sm_iM4] at hP
        obtain ⟨σ13, eσ13⟩ : ∃ x : sm_S, x = sm_i σ12 4 0 := ⟨_, rfl⟩
        replace hF := hF σ13 eσ13
        rw [← eσ13] at hP
        refine lv_aload_n hx hb dX11_end_81 rfl (lv_at hl 0 rfl) ?_
        refine sm_vi (As := []) (rest := []) hP hK hD hE hS hA ⟨hx, hb, hml, hown, hts⟩ hl.1 (c_X11_readAll l D H.size t0 σ13 α _ hF) (cwV 0 hts wg_X11_end_X11_readAll_148 rfl rfl rfl (by decide +kernel) ⟨Nat.le_of_ble_eq_true rfl, Nat.le_of_ble_eq_true rfl⟩) (va_recv hK hP (ci := 11) (q0 := 0) rfl (sm_gX11 σ13 α)) rfl rfl (Nat.le_of_ble_eq_true rfl) dX11_end_82 ⟨Nat.zero_le _, Nat.zero_le _⟩ (fun r15 σ14 H locs hF hP hS => ?_)
        refine lv_if_eq (tgt := 113) hx hb dX11_end_85 (by decide) (fun h16 => ?_) (fun h16 => ?_)
        · replace hF := hF.1 h16
          exact B113 σ14 hF H locs ls hP hS (lv_sub hl [0] rfl)
        · replace hF := hF.2 h16
          refine lv_aload_n hx hb dX11_end_88 rfl (lv_at hl 0 rfl) ?_
          refine sm_vv (As := []) (rest := []) hP hK hD hE hS hA ⟨hx, hb, hml, hown, hts⟩ hl.1 (c_X11_checkSlots l D H.size t0 σ14 α _ hF) (cwV 0 hts wg_X11_end_X11_checkSlots_151 rfl rfl rfl (by decide +kernel) ⟨Nat.le_of_ble_eq_true rfl, Nat.le_of_ble_eq_true rfl⟩) (va_recv hK hP (ci := 11) (q0 := 0) rfl (sm_gX11 σ14 α)) rfl rfl (Nat.le_of_ble_eq_true rfl) dX11_end_89 ⟨Nat.zero_le _, Nat.zero_le _⟩ (fun σ17 H locs hF hP hS => ?_)
          refine lv_iconst (v := 0) hx hb dX11_end_92 (by decide) ?_
          refine lv_istore_n (lv' := [(2, .int 0), (0, .ref (α.1 0)), (1, .int x1)]) hx hb dX11_end_93 rfl hl (by decide) rfl (fun ls hl => ?_)
          obtain ⟨n94, hF⟩ := hF
          exact B94 n94 σ17 0 hF H locs ls hP hS (lv_sub hl [1, 0] rfl)
      · replace hF := hF.2 h8
        refine lv_aload_n hx hb dX11_end_31 rfl (lv_at hl 0 rfl) ?_
        refine va_get (D := D) (ci := 11) (v := .ref (α.1 3)) (C := RX11) (T := TX11) (N := 28) hx hb hts in_X11 hown hK hP 0 (sm_gX11 σ α) rfl 2 (by decide) k_6 (fun _ h9 => h9) rfl dX11_end_32 ?_
        refine lv_iload_n hx hb dX11_end_35 rfl (lv_at hl 2 rfl) ?_
        refine lv_aload_n hx hb dX11_end_36 rfl (lv_at hl 0 rfl) ?_
        refine va_get (D := D) (ci := 11) (v := .ref (α.1 2)) (C := RX11) (T := TX11) (N := 28) hx hb hts in_X11 hown hK hP 0 (sm_gX11 σ α) rfl 0 (by decide) k_7 (fun _ h9 => h9) rfl dX11_end_37 ?_
        refine lv_iload_n hx hb dX11_end_40 rfl (lv_at hl 2 rfl) ?_
        obtain ⟨h18, hF⟩ := hF
        refine va_iald (n := (σ.2.2.1 2)) (f := (σ.2.2.2.1 2)) hx hb hK hP 2 0 (sm_aM2 σ α) (sm_yM2 α) h18 dX11_end_41 ?_
        obtain ⟨h19, hF⟩ := hF
        refine va_iast (n := (σ.2.2.1 3)) (f := (σ.2.2.2.1 3)) (x := ((σ.2.2.2.1 2) x2.toNatClampNeg)) hx hb hK hP (hD.to (sm_wM_m _ _)) hS 3 1 (sm_aM3 σ α) (sm_yM3 α) h19 dX11_end_42 (fun H locs hP _ hS => ?_)
        rw [sm_rM3] at hP
        obtain ⟨σ20, eσ20⟩ : ∃ x : sm_S, x = sm_r σ 3 (upd (σ.2.2.2.1 3) x2.toNatClampNeg ((σ.2.2.2.1 2) x2.toNatClampNeg)) := ⟨_, rfl⟩
        replace hF := hF σ20 eσ20
        rw [← eσ20] at hP
        refine lv_aload_n hx hb dX11_end_43 rfl (lv_at hl 0 rfl) ?_
        refine va_get (D := D) (ci := 11) (v := .ref (α.1 4)) (C := RX11) (T := TX11) (N := 28) hx hb hts in_X11 hown hK hP 0 (sm_gX11 σ20 α) rfl 3 (by decide) k_8 (fun _ h9 => h9) rfl dX11_end_44 ?_
        refine lv_iload_n hx hb dX11_end_47 rfl (lv_at hl 2 rfl) ?_
        refine lv_iconst (v := 0) hx hb dX11_end_48 (by decide) ?_
        obtain ⟨h21, hF⟩ := hF
        refine va_zast (n := (σ20.2.2.1 4)) (f := (σ20.2.2.2.1 4)) (x := 0) hx hb hK hP (hD.to (sm_wM_m _ _)) hS 4 2 (sm_aM4 σ20 α) (sm_yM4 α) h21 dX11_end_49 (fun H locs hP _ hS => ?_)
        rw [sm_rM4] at hP
        obtain ⟨σ22, eσ22⟩ : ∃ x : sm_S, x = sm_r σ20 4 (upd (σ20.2.2.2.1 4) x2.toNatClampNeg (vp_nar .boolean 0)) := ⟨_, rfl⟩
        replace hF := hF σ22 eσ22
        rw [← eσ22] at hP
        obtain ⟨v23, ev23⟩ : ∃ y : Int32, y = x2 + 1 := ⟨_, rfl⟩
        replace hF := hF v23 ev23
        refine lv_iinc (v := v23) (lv' := [(2, .int v23), (0, .ref (α.1 0)), (1, .int x1)]) hx hb dX11_end_50 hl (k := 2) rfl (by rw [ev23]; rfl) (by decide) rfl (fun ls hl => ?_)
        refine lv_goto (tgt := 26) hx hb dX11_end_53 (by decide) ?_
        exact ih26 σ22 x1 v23 hF H locs ls hP hS (lv_sub hl [1, 2, 0] rfl)
  have B12 : ∀ (σ : sm_S), mp_X11_end_12 K σ → sm_J p l e (headSpec wp_X11_end { frames := 6, cells := 0, slots := 0, locals := 137 }).room s m ([.ref (α.1 0), .int p1] : List Value).toArray below meth c (MQ below (va_Qi K (sm_B sm_wM D α) A) ([.ref (α.1 0), .int p1] : List Value).toArray s 0 0 A) D A 3 (sm_wM σ α) 12 [(0, .ref (α.1 0))] [] := by
    intro σ hF H locs ls hP hS hl
    unfold mp_X11_end_12 at hF
    refine lv_aload_n hx hb dX11_end_12 rfl (lv_at hl 0 rfl) ?_
    refine lv_iconst (v := 0) hx hb dX11_end_13 (by decide) ?_
    refine va_put (D := D) (ci := 11) (v := .int 0) (ty := .int) (C := RX11) (T := TX11) (N := 28) hx hb hts in_X11 tyX11 tyX11_ok nmX11 hown hK hP (hD.to (sm_wM_m _ _)) hS 0 (sm_gX11 σ α) rfl 1 (by decide) k_4 (fun _ h9 => h9) rfl (by decide +kernel) rfl rfl (Nat.le_of_ble_eq_true rfl) dX11_end_14 (fun H locs hP _ hS => ?_)
    rw [sm_iM0] at hP
    obtain ⟨σ24, eσ24⟩ : ∃ x : sm_S, x = sm_i σ 0 0 := ⟨_, rfl⟩
    replace hF := hF σ24 eσ24
    rw [← eσ24] at hP
    refine lv_iconst (v := -1) hx hb dX11_end_17 (by decide) ?_
    exact W.iret (v := (-1)) hx hb hr (fun t ht hW => ⟨⟨(-1), σ24, rfl, hF, (by unfold sm_B; rw [ht]; exact hP)⟩, hS.F ht⟩) hS.2.2 dX11_end_18
  unfold mp_X11_end at hF
  revert hP hS
  generalize hLo : ([] : List Loc) = locs
  suffices h9 : ∀ (H : Heap) (locs : List Loc), va_P D vwCl (sm_wM σ α) H → va_S A s.heap H locs → W p l e (headSpec wp_X11_end { frames := 6, cells := 0, slots := 0, locals := 137 }).room s m ([.ref (α.1 0), .int p1] : List Value).toArray below meth c H locs 0 0 (MQ below (va_Qi K (sm_B sm_wM D α) A) ([.ref (α.1 0), .int p1] : List Value).toArray s 0 0 A) (F0 m 0 ls []) from fun hP hS => h9 s.heap locs hP hS
  intro H locs hP hS
  refine lv_iload_n hx hb dX11_end_0 rfl (lv_at hl 1 rfl) ?_
  refine lv_if_lt (tgt := 12) hx hb dX11_end_1 (by decide) (fun h25 => ?_) (fun h25 => ?_)
  · replace hF := hF.1 h25
    exact B12 σ hF H locs ls hP hS (lv_sub hl [0] rfl)
  · replace hF := hF.2 h25
    refine lv_iload_n hx hb dX11_end_4 rfl (lv_at hl 1 rfl) ?_
    refine lv_aload_n hx hb dX11_end_5 rfl (lv_at hl 0 rfl) ?_
    refine va_get (D := D) (ci := 11) (v := .int (σ.1 0)) (C := RX11) (T := TX11) (N := 28) hx hb hts in_X11 hown hK hP 0 (sm_gX11 σ α) rfl 1 (by decide) k_4 (fun _ h9 => h9) rfl dX11_end_6 ?_
    refine lv_icmp_le (tgt := 19) hx hb dX11_end_9 (by decide) (fun h26 => ?_) (fun h26 => ?_)
    · replace hF := hF.1 h26
      refine lv_aload_n hx hb dX11_end_19 rfl (lv_at hl 0 rfl) ?_
      refine lv_iload_n hx hb dX11_end_20 rfl (lv_at hl 1 rfl) ?_
      refine va_put (D := D) (ci := 11) (v := .int p1) (ty := .int) (C := RX11) (T := TX11) (N := 28) hx hb hts in_X11 tyX11 tyX11_ok nmX11 hown hK hP (hD.to (sm_wM_m _ _)) hS 0 (sm_gX11 σ α) rfl 4 (by decide) k_9 (fun _ h9 => h9) rfl (by decide +kernel) rfl rfl (Nat.le_of_ble_eq_true rfl) dX11_end_21 (fun H locs hP _ hS => ?_)
      rw [sm_iM1] at hP
      obtain ⟨σ27, eσ27⟩ : ∃ x : sm_S, x = sm_i σ 1 p1 := ⟨_, rfl⟩
      replace hF := hF σ27 eσ27
      rw [← eσ27] at hP
      refine lv_iconst (v := 0) hx hb dX11_end_24 (by decide) ?_
      refine lv_istore_n (lv' := [(2, .int 0), (0, .ref (α.1 0)), (1, .int p1)]) hx hb dX11_end_25 rfl hl (by decide) rfl (fun ls hl => ?_)
      obtain ⟨n26, hF⟩ := hF
      exact B26 n26 σ27 p1 0 hF H locs ls hP hS (lv_sub hl [1, 2, 0] rfl)
    · replace hF := hF.2 h26
      exact B12 σ hF H locs ls hP hS (lv_sub hl [0] rfl)
theorem dX11_isClass_0 : decode cX11_isClass 0 = .ok (.aload_n 0, 1) := by decide +kernel
theorem dX11_isClass_1 : decode cX11_isClass 1 = .ok (.getfield 144, 3) := by decide +kernel
theorem dX11_isClass_4 : decode cX11_isClass 4 = .ok (.ifCond .eq 19, 3) := by decide +kernel
theorem dX11_isClass_7 : decode cX11_isClass 7 = .ok (.iload_n 1, 1) := by decide +kernel
theorem dX11_isClass_8 : decode cX11_isClass 8 = .ok (.ifCond .lt 15, 3) := by decide +kernel
theorem dX11_isClass_11 : decode cX11_isClass 11 = .ok (.iload_n 1, 1) := by decide +kernel
theorem dX11_isClass_12 : decode cX11_isClass 12 = .ok (.aload_n 0, 1) := by decide +kernel
theorem dX11_isClass_13 : decode cX11_isClass 13 = .ok (.getfield 91, 3) := by decide +kernel
theorem dX11_isClass_16 : decode cX11_isClass 16 = .ok (.if_icmp .ge 7, 3) := by decide +kernel
theorem dX11_isClass_19 : decode cX11_isClass 19 = .ok (.iconst 1, 1) := by decide +kernel
theorem dX11_isClass_20 : decode cX11_isClass 20 = .ok (.goto 4, 3) := by decide +kernel
theorem dX11_isClass_23 : decode cX11_isClass 23 = .ok (.iconst 0, 1) := by decide +kernel
theorem dX11_isClass_24 : decode cX11_isClass 24 = .ok (.ireturn, 1) := by decide +kernel
def wp_X11_isClass : List Cond := .code yX11_isClass cX11_isClass 2 (some .boolean) :: ([.fieldLink RX11 144 "SteadyMachineModel$Image" "there" "Z", .fieldLink RX11 91 "SteadyMachineModel$Image" "classes" "I"] ++ wsX110)
theorem wq_X11_isClass : wp_X11_isClass.all goodWord = true := wa_c rfl (wa_a (by decide +kernel) uq_X11)
theorem wt_X11_isClass : GoodIn lw_tbl wp_X11_isClass := wm_c (List.mem_of_getElem? (i := 1301) (by decide +kernel)) rfl (wm_a (goodIn_r _ [1390, 1392] (by decide +kernel) (by decide +kernel)) ut_X11)
theorem wi_X11_isClass_X11 : ∀ w ∈ wsX110, w ∈ wp_X11_isClass := fun w h => List.mem_cons_of_mem _ (List.mem_append_right _ h)
set_option maxHeartbeats 4000000 in
set_option maxRecDepth 100000 in
theorem c_X11_isClass (l : Launch) (D : va_G) (sz t0 : Nat) (σ : sm_S) (α : sm_A) (p1 : Int32) (K : Int32 → sm_S → Prop) (hF : mp_X11_isClass σ p1 K) : Met l yX11_isClass wp_X11_isClass { frames := 0, cells := 0, slots := 0, locals := 0 } (sm_P sm_wM sm_tM 40 D sz t0 σ α [.ref (α.1 0), .int p1]) (va_Qi K (sm_B sm_wM D α) (sm_a α 40 sz)) 0 0 (sm_a α 40 sz) := by
  refine Met.ofW (cc := cX11_isClass) (maxL := 2) (ret := (some .boolean)) (by decide) rfl ?_
  intro p e s m args below meth c s₁ B hml hv
  obtain ⟨rfl, hsz, hP, hK, hD0, hE⟩ := hv
  have hx := B.exec
  have hb := B.bytes
  have hr := B.returns
  have hts := atoms_spec (ws := wp_X11_isClass) B.pre
  have hown : s.vm.findClass RX11 = some m.cls := findClass_of_methodNamed B.named
  have hlocks := B.notSynchronized
  subst hsz
  have hD : sm_D (sm_a α 40 s.heap.size) α 40 := hD0.own
  have hA : ∀ q : Nat, s.heap.size ≤ q → sm_a α 40 s.heap.size q := fun q h => Or.inr h
  generalize hAe : sm_a α 40 s.heap.size = A at hD hA hE ⊢
  have hS : va_S A s.heap s.heap [] := va_S.rf
  have in_X11 : ∀ w ∈ wsX110, w ∈ wp_X11_isClass := wi_X11_isClass_X11
  have k_0 := hts (.fieldLink RX11 144 "SteadyMachineModel$Image" "there" "Z") (by decide +kernel)
  have k_1 := hts (.fieldLink RX11 91 "SteadyMachineModel$Image" "classes" "I") (by decide +kernel)
  have hl := lv_entry ([.ref (α.1 0), .int p1]) (n := 2) (Nat.le_of_ble_eq_true rfl)
  rw [lg_entry_eq]
  generalize (lg_sl ([.ref (α.1 0), .int p1]) ++ List.replicate (2 - (lg_sl ([.ref (α.1 0), .int p1])).length) Slot.unset).toArray = ls at hl ⊢
  have hl : lv_has ls 2 [(0, .ref (α.1 0)), (1, .int p1)] := hl
  have B24 : ∀ (σ : sm_S) (y0 : Int32), mp_X11_isClass_24 K σ y0 → sm_J p l e (headSpec wp_X11_isClass { frames := 0, cells := 0, slots := 0, locals := 0 }).room s m ([.ref (α.1 0), .int p1] : List Value).toArray below meth c (MQ below (va_Qi K (sm_B sm_wM D α) A) ([.ref (α.1 0), .int p1] : List Value).toArray s 0 0 A) D A 2 (sm_wM σ α) 24 [] [.int y0] := by
    intro σ y0 hF H locs ls hP hS hl
    unfold mp_X11_isClass_24 at hF
    obtain ⟨h1, hF⟩ := hF
    exact W.zret (v := y0) hx hb hr h1.1 (fun t ht hW => ⟨⟨y0, σ, rfl, hF, (by unfold sm_B; rw [ht]; exact hP)⟩, hS.F ht⟩) hS.2.2 dX11_isClass_24
  have B23 : ∀ (σ : sm_S), mp_X11_isClass_23 K σ → sm_J p l e (headSpec wp_X11_isClass { frames := 0, cells := 0, slots := 0, locals := 0 }).room s m ([.ref (α.1 0), .int p1] : List Value).toArray below meth c (MQ below (va_Qi K (sm_B sm_wM D α) A) ([.ref (α.1 0), .int p1] : List Value).toArray s 0 0 A) D A 2 (sm_wM σ α) 23 [] [] := by
    intro σ hF H locs ls hP hS hl
    unfold mp_X11_isClass_23 at hF
    refine lv_iconst (v := 0) hx hb dX11_isClass_23 (by decide) ?_
    exact B24 σ 0 hF H locs ls hP hS (lv_sub hl [] rfl)
  unfold mp_X11_isClass at hF
  revert hP hS
  generalize hLo : ([] : List Loc) = locs
  suffices h9 : ∀ (H : Heap) (locs : List Loc), va_P D vwCl (sm_wM σ α) H → va_S A s.heap H locs → W p l e (headSpec wp_X11_isClass { frames := 0, cells := 0, slots := 0, locals := 0 }).room s m ([.ref (α.1 0), .int p1] : List Value).toArray below meth c H locs 0 0 (MQ below (va_Qi K (sm_B sm_wM D α) A) ([.ref (α.1 0), .int p1] : List Value).toArray s 0 0 A) (F0 m 0 ls []) from fun hP hS => h9 s.heap locs hP hS
  intro H locs hP hS
  refine lv_aload_n hx hb dX11_isClass_0 rfl (lv_at hl 0 rfl) ?_
  refine va_get (D := D) (ci := 11) (v := .int (σ.1 4)) (C := RX11) (T := TX11) (N := 28) hx hb hts in_X11 hown hK hP 0 (sm_gX11 σ α) rfl 7 (by decide) k_0 (fun _ h9 => h9) rfl dX11_isClass_1 ?_
  refine lv_if_eq (tgt := 23) hx hb dX11_isClass_4 (by decide) (fun h2 => ?_) (fun h2 => ?_)
  · replace hF := hF.1 h2
    exact B23 σ hF H locs ls hP hS (lv_sub hl [] rfl)
  · replace hF := hF.2 h2
    refine lv_iload_n hx hb dX11_isClass_7 rfl (lv_at hl 1 rfl) ?_
    refine lv_if_lt (tgt := 23) hx hb dX11_isClass_8 (by decide) (fun h3 => ?_) (fun h3 => ?_)
    · replace hF := hF.1 h3
      exact B23 σ hF H locs ls hP hS (lv_sub hl [] rfl)
    · replace hF := hF.2 h3
      refine lv_iload_n hx hb dX11_isClass_11 rfl (lv_at hl 1 rfl) ?_
      refine lv_aload_n hx hb dX11_isClass_12 rfl (lv_at hl 0 rfl) ?_
      refine va_get (D := D) (ci := 11) (v := .int (σ.1 5)) (C := RX11) (T := TX11) (N := 28) hx hb hts in_X11 hown hK hP 0 (sm_gX11 σ α) rfl 8 (by decide) k_1 (fun _ h9 => h9) rfl dX11_isClass_13 ?_
      refine lv_icmp_ge (tgt := 23) hx hb dX11_isClass_16 (by decide) (fun h4 => ?_) (fun h4 => ?_)
      · replace hF := hF.1 h4
        exact B23 σ hF H locs ls hP hS (lv_sub hl [] rfl)
      · replace hF := hF.2 h4
        refine lv_iconst (v := 1) hx hb dX11_isClass_19 (by decide) ?_
        refine lv_goto (tgt := 24) hx hb dX11_isClass_20 (by decide) ?_
        exact B24 σ 1 hF H locs ls hP hS (lv_sub hl [] rfl)
theorem dX11_isA_0 : decode cX11_isA 0 = .ok (.aload_n 0, 1) := by decide +kernel
theorem dX11_isA_1 : decode cX11_isA 1 = .ok (.iload_n 1, 1) := by decide +kernel
theorem dX11_isA_2 : decode cX11_isA 2 = .ok (.invokevirtual 158, 3) := by decide +kernel
theorem dX11_isA_5 : decode cX11_isA 5 = .ok (.ifCond .eq 11, 3) := by decide +kernel
theorem dX11_isA_8 : decode cX11_isA 8 = .ok (.aload_n 0, 1) := by decide +kernel
theorem dX11_isA_9 : decode cX11_isA 9 = .ok (.iload_n 2, 1) := by decide +kernel
theorem dX11_isA_10 : decode cX11_isA 10 = .ok (.invokevirtual 158, 3) := by decide +kernel
theorem dX11_isA_13 : decode cX11_isA 13 = .ok (.ifCond .ne 5, 3) := by decide +kernel
theorem dX11_isA_16 : decode cX11_isA 16 = .ok (.iconst 0, 1) := by decide +kernel
theorem dX11_isA_17 : decode cX11_isA 17 = .ok (.ireturn, 1) := by decide +kernel
theorem dX11_isA_18 : decode cX11_isA 18 = .ok (.iload_n 1, 1) := by decide +kernel
theorem dX11_isA_19 : decode cX11_isA 19 = .ok (.istore_n 3, 1) := by decide +kernel
theorem dX11_isA_20 : decode cX11_isA 20 = .ok (.iload_n 3, 1) := by decide +kernel
theorem dX11_isA_21 : decode cX11_isA 21 = .ok (.ifCond .lt 18, 3) := by decide +kernel
theorem dX11_isA_24 : decode cX11_isA 24 = .ok (.iload_n 3, 1) := by decide +kernel
theorem dX11_isA_25 : decode cX11_isA 25 = .ok (.iload_n 2, 1) := by decide +kernel
theorem dX11_isA_26 : decode cX11_isA 26 = .ok (.if_icmp .eq 13, 3) := by decide +kernel
theorem dX11_isA_29 : decode cX11_isA 29 = .ok (.aload_n 0, 1) := by decide +kernel
theorem dX11_isA_30 : decode cX11_isA 30 = .ok (.getfield 22, 3) := by decide +kernel
theorem dX11_isA_33 : decode cX11_isA 33 = .ok (.iload_n 3, 1) := by decide +kernel
theorem dX11_isA_34 : decode cX11_isA 34 = .ok (.iaload, 1) := by decide +kernel
theorem dX11_isA_35 : decode cX11_isA 35 = .ok (.istore_n 3, 1) := by decide +kernel
theorem dX11_isA_36 : decode cX11_isA 36 = .ok (.goto (-16), 3) := by decide +kernel
theorem dX11_isA_39 : decode cX11_isA 39 = .ok (.iload_n 3, 1) := by decide +kernel
theorem dX11_isA_40 : decode cX11_isA 40 = .ok (.iload_n 2, 1) := by decide +kernel
theorem dX11_isA_41 : decode cX11_isA 41 = .ok (.if_icmp .ne 7, 3) := by decide +kernel
theorem dX11_isA_44 : decode cX11_isA 44 = .ok (.iconst 1, 1) := by decide +kernel
theorem dX11_isA_45 : decode cX11_isA 45 = .ok (.goto 4, 3) := by decide +kernel
theorem dX11_isA_48 : decode cX11_isA 48 = .ok (.iconst 0, 1) := by decide +kernel
theorem dX11_isA_49 : decode cX11_isA 49 = .ok (.ireturn, 1) := by decide +kernel
def wp_X11_isA : List Cond := .code yX11_isA cX11_isA 4 (some .boolean) :: (([.fieldLink RX11 22 "SteadyMachineModel$Image" "uppers" "[I"] ++ (wsV RX11 158 RX11 yX11_isClass wp_X11_isClass)) ++ wsX110)
theorem wq_X11_isA : wp_X11_isA.all goodWord = true := wa_c rfl (wa_a (wa_a (by decide +kernel) (wa_V wq_X11_isClass)) uq_X11)
theorem wt_X11_isA : GoodIn lw_tbl wp_X11_isA := wm_c (List.mem_of_getElem? (i := 1297) (by decide +kernel)) rfl (wm_a (wm_a (goodIn_r _ [1394] (by decide +kernel) (by decide +kernel)) (wm_a (goodIn_r _ [1298, 1300, 87, 148] (by decide +kernel) (by decide +kernel)) wt_X11_isClass)) ut_X11)
theorem wg_X11_isA_X11_isClass_158 : GoodIn wp_X11_isA (wsV RX11 158 RX11 yX11_isClass wp_X11_isClass) := goodIn_sub (fun w h => List.mem_cons_of_mem _ (List.mem_append_left _ (List.mem_append_right _ h))) (wa_V wq_X11_isClass)
theorem wi_X11_isA_X11 : ∀ w ∈ wsX110, w ∈ wp_X11_isA := fun w h => List.mem_cons_of_mem _ (List.mem_append_right _ h)
set_option maxHeartbeats 4000000 in
set_option maxRecDepth 100000 in
theorem c_X11_isA (l : Launch) (D : va_G) (sz t0 : Nat) (σ : sm_S) (α : sm_A) (p1 : Int32) (p2 : Int32) (K : Int32 → sm_S → Prop) (hF : mp_X11_isA σ p1 p2 K) : Met l yX11_isA wp_X11_isA { frames := 1, cells := 0, slots := 0, locals := 21 } (sm_P sm_wM sm_tM 40 D sz t0 σ α [.ref (α.1 0), .int p1, .int p2]) (va_Qi K (sm_B sm_wM D α) (sm_a α 40 sz)) 0 0 (sm_a α 40 sz) := by
  refine Met.ofW (cc := cX11_isA) (maxL := 4) (ret := (some .boolean)) (by decide) rfl ?_
  intro p e s m args below meth c s₁ B hml hv
  obtain ⟨rfl, hsz, hP, hK, hD0, hE⟩ := hv
  have hx := B.exec
  have hb := B.bytes
  have hr := B.returns
  have hts := atoms_spec (ws := wp_X11_isA) B.pre
  have hown : s.vm.findClass RX11 = some m.cls := findClass_of_methodNamed B.named
  have hlocks := B.notSynchronized
  subst hsz
  have hD : sm_D (sm_a α 40 s.heap.size) α 40 := hD0.own
  have hA : ∀ q : Nat, s.heap.size ≤ q → sm_a α 40 s.heap.size q := fun q h => Or.inr h
  generalize hAe : sm_a α 40 s.heap.size = A at hD hA hE ⊢
  have hS : va_S A s.heap s.heap [] := va_S.rf
  have in_X11 : ∀ w ∈ wsX110, w ∈ wp_X11_isA := wi_X11_isA_X11
  have k_0 := hts (.fieldLink RX11 22 "SteadyMachineModel$Image" "uppers" "[I") (by decide +kernel)
  have hl := lv_entry ([.ref (α.1 0), .int p1, .int p2]) (n := 4) (Nat.le_of_ble_eq_true rfl)
  rw [lg_entry_eq]
  generalize (lg_sl ([.ref (α.1 0), .int p1, .int p2]) ++ List.replicate (4 - (lg_sl ([.ref (α.1 0), .int p1, .int p2])).length) Slot.unset).toArray = ls at hl ⊢
  have hl : lv_has ls 4 [(0, .ref (α.1 0)), (1, .int p1), (2, .int p2)] := hl
  have B49 : ∀ (σ : sm_S) (y0 : Int32), mp_X11_isA_49 K σ y0 → sm_J p l e (headSpec wp_X11_isA { frames := 1, cells := 0, slots := 0, locals := 21 }).room s m ([.ref (α.1 0), .int p1, .int p2] : List Value).toArray below meth c (MQ below (va_Qi K (sm_B sm_wM D α) A) ([.ref (α.1 0), .int p1, .int p2] : List Value).toArray s 0 0 A) D A 4 (sm_wM σ α) 49 [] [.int y0] := by
    intro σ y0 hF H locs ls hP hS hl
    unfold mp_X11_isA_49 at hF
    obtain ⟨h1, hF⟩ := hF
    exact W.zret (v := y0) hx hb hr h1.1 (fun t ht hW => ⟨⟨y0, σ, rfl, hF, (by unfold sm_B; rw [ht]; exact hP)⟩, hS.F ht⟩) hS.2.2 dX11_isA_49
  have B39 : ∀ (σ : sm_S) (x2 : Int32) (x3 : Int32), mp_X11_isA_39 K σ x2 x3 → sm_J p l e (headSpec wp_X11_isA { frames := 1, cells := 0, slots := 0, locals := 21 }).room s m ([.ref (α.1 0), .int p1, .int p2] : List Value).toArray below meth c (MQ below (va_Qi K (sm_B sm_wM D α) A) ([.ref (α.1 0), .int p1, .int p2] : List Value).toArray s 0 0 A) D A 4 (sm_wM σ α) 39 [(2, .int x2), (3, .int x3)] [] := by
    intro σ x2 x3 hF H locs ls hP hS hl
    unfold mp_X11_isA_39 at hF
    refine lv_iload_n hx hb dX11_isA_39 rfl (lv_at hl 1 rfl) ?_
    refine lv_iload_n hx hb dX11_isA_40 rfl (lv_at hl 0 rfl) ?_
    refine lv_icmp_ne (tgt := 48) hx hb dX11_isA_41 (by decide) (fun h2 => ?_) (fun h2 => ?_)
    · replace hF := hF.1 h2
      refine lv_iconst (v := 0) hx hb dX11_isA_48 (by decide) ?_
      exact B49 σ 0 hF H locs ls hP hS (lv_sub hl [] rfl)
    · replace hF := hF.2 h2
      refine lv_iconst (v := 1) hx hb dX11_isA_44 (by decide) ?_
      refine lv_goto (tgt := 49) hx hb dX11_isA_45 (by decide) ?_
      exact B49 σ 1 hF H locs ls hP hS (lv_sub hl [] rfl)
  have B20 : ∀ (n : Nat) (σ : sm_S) (x2 : Int32) (x3 : Int32), mp_X11_isA_20 K n σ x2 x3 → sm_J p l e (headSpec wp_X11_isA { frames := 1, cells := 0, slots := 0, locals := 21 }).room s m ([.ref (α.1 0), .int p1, .int p2] : List Value).toArray below meth c (MQ below (va_Qi K (sm_B sm_wM D α) A) ([.ref (α.1 0), .int p1, .int p2] : List Value).toArray s 0 0 A) D A 4 (sm_wM σ α) 20 [(0, .ref (α.1 0)), (2, .int x2), (3, .int x3)] [] := by
    intro n20
    induction n20 with
    | zero =>
      intro σ x2 x3 hF
      exact hF.elim
    | succ n20 ih20 =>
      intro σ x2 x3 hF H locs ls hP hS hl
      unfold mp_X11_isA_20 at hF
      refine lv_iload_n hx hb dX11_isA_20 rfl (lv_at hl 2 rfl) ?_
      refine lv_if_lt (tgt := 39) hx hb dX11_isA_21 (by decide) (fun h3 => ?_) (fun h3 => ?_)
      · replace hF := hF.1 h3
        exact B39 σ x2 x3 hF H locs ls hP hS (lv_sub hl [1, 2] rfl)
      · replace hF := hF.2 h3
        refine lv_iload_n hx hb dX11_isA_24 rfl (lv_at hl 2 rfl) ?_
        refine lv_iload_n hx hb dX11_isA_25 rfl (lv_at hl 1 rfl) ?_
        refine lv_icmp_eq (tgt := 39) hx hb dX11_isA_26 (by decide) (fun h4 => ?_) (fun h4 => ?_)
        · replace hF := hF.1 h4
          exact B39 σ x2 x3 hF H locs ls hP hS (lv_sub hl [1, 2] rfl)
        · replace hF := hF.2 h4
          refine lv_aload_n hx hb dX11_isA_29 rfl (lv_at hl 0 rfl) ?_
          refine va_get (D := D) (ci := 11) (v := .ref (α.1 5)) (C := RX11) (T := TX11) (N := 28) hx hb hts in_X11 hown hK hP 0 (sm_gX11 σ α) rfl 9 (by decide) k_0 (fun _ h9 => h9) rfl dX11_isA_30 ?_
          refine lv_iload_n hx hb dX11_isA_33 rfl (lv_at hl 2 rfl) ?_
          obtain ⟨h5, hF⟩ := hF
          refine va_iald (n := (σ.2.2.1 5)) (f := (σ.2.2.2.1 5)) hx hb hK hP 5 3 (sm_aM5 σ α) (sm_yM5 α) h5 dX11_isA_34 ?_
          refine lv_topi (fun v6 ev6 => ?_)
          replace hF := hF v6 ev6
          refine lv_istore_n (lv' := [(3, .int v6), (0, .ref (α.1 0)), (2, .int x2)]) hx hb dX11_isA_35 rfl hl (by decide) rfl (fun ls hl => ?_)
          refine lv_goto (tgt := 20) hx hb dX11_isA_36 (by decide) ?_
          exact ih20 σ x2 v6 hF H locs ls hP hS (lv_sub hl [1, 2, 0] rfl)
  have B16 : ∀ (σ : sm_S), mp_X11_isA_16 K σ → sm_J p l e (headSpec wp_X11_isA { frames := 1, cells := 0, slots := 0, locals := 21 }).room s m ([.ref (α.1 0), .int p1, .int p2] : List Value).toArray below meth c (MQ below (va_Qi K (sm_B sm_wM D α) A) ([.ref (α.1 0), .int p1, .int p2] : List Value).toArray s 0 0 A) D A 4 (sm_wM σ α) 16 [] [] := by
    intro σ hF H locs ls hP hS hl
    unfold mp_X11_isA_16 at hF
    refine lv_iconst (v := 0) hx hb dX11_isA_16 (by decide) ?_
    exact W.zret (v := 0) hx hb hr sm_z0.1 (fun t ht hW => ⟨⟨0, σ, rfl, hF, (by unfold sm_B; rw [ht]; exact hP)⟩, hS.F ht⟩) hS.2.2 dX11_isA_17
  unfold mp_X11_isA at hF
  revert hP hS
  generalize hLo : ([] : List Loc) = locs
  suffices h9 : ∀ (H : Heap) (locs : List Loc), va_P D vwCl (sm_wM σ α) H → va_S A s.heap H locs → W p l e (headSpec wp_X11_isA { frames := 1, cells := 0, slots := 0, locals := 21 }).room s m ([.ref (α.1 0), .int p1, .int p2] : List Value).toArray below meth c H locs 0 0 (MQ below (va_Qi K (sm_B sm_wM D α) A) ([.ref (α.1 0), .int p1, .int p2] : List Value).toArray s 0 0 A) (F0 m 0 ls []) from fun hP hS => h9 s.heap locs hP hS
  intro H locs hP hS
  refine lv_aload_n hx hb dX11_isA_0 rfl (lv_at hl 0 rfl) ?_
  refine lv_iload_n hx hb dX11_isA_1 rfl (lv_at hl 1 rfl) ?_
  refine sm_vi (As := [.int p1]) (rest := []) hP hK hD hE hS hA ⟨hx, hb, hml, hown, hts⟩ hl.1 (c_X11_isClass l D H.size t0 σ α p1 _ hF) (cwV 1 hts wg_X11_isA_X11_isClass_158 rfl rfl rfl (by decide +kernel) ⟨Nat.le_of_ble_eq_true rfl, Nat.le_of_ble_eq_true rfl⟩) (va_recv hK hP (ci := 11) (q0 := 0) rfl (sm_gX11 σ α)) rfl rfl (Nat.le_of_ble_eq_true rfl) dX11_isA_2 ⟨Nat.zero_le _, Nat.zero_le _⟩ (fun r8 σ7 H locs hF hP hS => ?_)
  refine lv_if_eq (tgt := 16) hx hb dX11_isA_5 (by decide) (fun h9 => ?_) (fun h9 => ?_)
  · replace hF := hF.1 h9
    exact B16 σ7 hF H locs ls hP hS (lv_sub hl [] rfl)
  · replace hF := hF.2 h9
    refine lv_aload_n hx hb dX11_isA_8 rfl (lv_at hl 0 rfl) ?_
    refine lv_iload_n hx hb dX11_isA_9 rfl (lv_at hl 2 rfl) ?_
    refine sm_vi (As := [.int p2]) (rest := []) hP hK hD hE hS hA ⟨hx, hb, hml, hown, hts⟩ hl.1 (c_X11_isClass l D H.size t0 σ7 α p2 _ hF) (cwV 1 hts wg_X11_isA_X11_isClass_158 rfl rfl rfl (by decide +kernel) ⟨Nat.le_of_ble_eq_true rfl, Nat.le_of_ble_eq_true rfl⟩) (va_recv hK hP (ci := 11) (q0 := 0) rfl (sm_gX11 σ7 α)) rfl rfl (Nat.le_of_ble_eq_true rfl) dX11_isA_10 ⟨Nat.zero_le _, Nat.zero_le _⟩ (fun r11 σ10 H locs hF hP hS => ?_)
    refine lv_if_ne (tgt := 18) hx hb dX11_isA_13 (by decide) (fun h12 => ?_) (fun h12 => ?_)
    · replace hF := hF.1 h12
      refine lv_iload_n hx hb dX11_isA_18 rfl (lv_at hl 1 rfl) ?_
      refine lv_istore_n (lv' := [(3, .int p1), (0, .ref (α.1 0)), (1, .int p1), (2, .int p2)]) hx hb dX11_isA_19 rfl hl (by decide) rfl (fun ls hl => ?_)
      obtain ⟨n20, hF⟩ := hF
      exact B20 n20 σ10 p2 p1 hF H locs ls hP hS (lv_sub hl [1, 3, 0] rfl)
    · replace hF := hF.2 h12
      exact B16 σ10 hF H locs ls hP hS (lv_sub hl [] rfl)
